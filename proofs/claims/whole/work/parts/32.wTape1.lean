-- X4_hasRoomFor
set_option maxRecDepth 100000 in
set_option maxHeartbeats 4000000 in
theorem c_X4_hasRoomFor (l : Launch) (P : zw_P) (σ : zw_S) (x1 : Int32) : zc_i l P yX4_hasRoomFor cX4_hasRoomFor 2 .boolean 0 [.ref (zw_ad P 45), .int x1] σ (m_X4_hasRoomFor σ x1) := by
  refine zc_i.of (by decide) (Nat.le_of_ble_eq_true rfl) (fun B r τ E hl hr hm => ?_)
  subst hl
  refine zr_sub (lv' := [(0, .ref (zw_ad P 45)), (1, .int x1)]) [0, 1] rfl ?_
  unfold m_X4_hasRoomFor at hm
  refine zr_aload_n E dX4_hasRoomFor_0 0 rfl ?_
  refine fg_X4_15 E dX4_hasRoomFor_1 ?_
  refine zr_iload_n E dX4_hasRoomFor_4 1 rfl ?_
  refine zr_iadd E dX4_hasRoomFor_5 ?_
  refine zr_bipush (v := 120) E dX4_hasRoomFor_6 (by decide) ?_
  refine zr_icmp_gt (tgt := 15) E dX4_hasRoomFor_8 (by decide) (fun c1 => ?_) (fun c1 => ?_)
  · rw [if_pos c1] at hm
    refine zr_iconst (v := 0) E dX4_hasRoomFor_15 (by decide) ?_
    exact zr_iret E hr (by decide) hm dX4_hasRoomFor_16
  · rw [if_neg c1] at hm
    refine zr_iconst (v := 1) E dX4_hasRoomFor_11 (by decide) ?_
    refine zr_goto (tgt := 16) E dX4_hasRoomFor_12 (by decide) ?_
    exact zr_iret E hr (by decide) hm dX4_hasRoomFor_16
-- X4_append
set_option maxRecDepth 100000 in
set_option maxHeartbeats 4000000 in
theorem t_X4_append_4 {B : zw_B} {P : zw_P} {r : Int32} {τ : zw_S} (E : zf B P cX4_append RX4 4 0) (hr : B.2.2.2.2.2.2.2.2.1.sig.returnType = some .int) : ∀ (n : Nat) (σ : zw_S) (x1 : Int32) (x3 : Int32), m_X4_append_4 n σ x1 x3 = some (r, τ) → zw_G B P (zq_i B P r τ) 4 σ 4 [(0, .ref (zw_ad P 45)), (1, .int x1), (3, .int x3)] [] := by
  intro n
  induction n with
  | zero => intro σ x1 x3 hm; cases hm
  | succ n ih =>
    intro σ x1 x3 hm
    unfold m_X4_append_4 at hm
    refine zr_iload_n E dX4_append_4 2 rfl ?_
    refine zr_if_lt (tgt := 49) E dX4_append_5 (by decide) (fun c1 => ?_) (fun c1 => ?_)
    · rw [if_pos c1] at hm
      refine zr_aload_n E dX4_append_49 0 rfl ?_
      refine fg_X4_15 E dX4_append_50 ?_
      exact zr_iret E hr rfl hm dX4_append_53
    · rw [if_neg c1] at hm
      refine zr_aload_n E dX4_append_8 0 rfl ?_
      refine fg_X4_15 E dX4_append_9 ?_
      refine zr_bipush (v := 120) E dX4_append_12 (by decide) ?_
      refine zr_icmp_ge (tgt := 49) E dX4_append_14 (by decide) (fun c2 => ?_) (fun c2 => ?_)
      · rw [if_pos c2] at hm
        refine zr_aload_n E dX4_append_49 0 rfl ?_
        refine fg_X4_15 E dX4_append_50 ?_
        exact zr_iret E hr rfl hm dX4_append_53
      · rw [if_neg c2] at hm
        refine zr_aload_n E dX4_append_17 0 rfl ?_
        refine fg_X4_11 E dX4_append_18 ?_
        refine zr_aload_n E dX4_append_21 0 rfl ?_
        refine zr_dup E dX4_append_22 rfl ?_
        refine fg_X4_15 E dX4_append_23 ?_
        obtain ⟨v3, ev3, hm⟩ := nm_some hm
        refine zr_top ev3 ?_
        refine zr_dup_x1 E dX4_append_26 rfl rfl ?_
        refine zr_iconst (v := 1) E dX4_append_27 (by decide) ?_
        refine zr_iadd E dX4_append_28 ?_
        obtain ⟨s4, es4, hm⟩ := nm_some hm
        refine fp_X4_15 E es4 dX4_append_29 ?_
        refine zr_iload_n E dX4_append_32 1 rfl ?_
        refine zr_bipush (v := 8) E dX4_append_33 (by decide) ?_
        refine zr_iload_n E dX4_append_35 2 rfl ?_
        refine zr_imul E dX4_append_36 ?_
        refine zr_iushr E dX4_append_37 ?_
        refine zr_sipush (v := 255) E dX4_append_38 (by decide) ?_
        refine zr_iand E dX4_append_41 ?_
        obtain ⟨hs5, s5, es5, hm⟩ := wt_some hm
        refine zr_iast E ac_46 hs5 es5 dX4_append_42 ?_
        obtain ⟨v6, ev6, hm⟩ := nm_some hm
        refine zr_iinc (j := 2) (lv' := [(3, .int v6), (0, .ref (zw_ad P 45)), (1, .int x1)]) E dX4_append_43 rfl ev6 (by decide) rfl ?_
        refine zr_goto (tgt := 4) E dX4_append_46 (by decide) ?_
        refine zr_sub (lv' := [(0, .ref (zw_ad P 45)), (1, .int x1), (3, .int v6)]) [1, 2, 0] rfl ?_
        exact ih s5 x1 v6 hm
set_option maxRecDepth 100000 in
set_option maxHeartbeats 4000000 in
theorem c_X4_append (l : Launch) (P : zw_P) (σ : zw_S) (x1 : Int32) (x2 : Int32) : zc_i l P yX4_append cX4_append 4 .int 0 [.ref (zw_ad P 45), .int x1, .int x2] σ (m_X4_append σ x1 x2) := by
  refine zc_i.of (by decide) (Nat.le_of_ble_eq_true rfl) (fun B r τ E hl hr hm => ?_)
  subst hl
  refine zr_sub (lv' := [(0, .ref (zw_ad P 45)), (1, .int x1), (2, .int x2)]) [0, 1, 2] rfl ?_
  unfold m_X4_append at hm
  refine zr_iload_n E dX4_append_0 2 rfl ?_
  refine zr_iconst (v := 1) E dX4_append_1 (by decide) ?_
  refine zr_isub E dX4_append_2 ?_
  obtain ⟨v1, ev1, hm⟩ := nm_some hm
  refine zr_top ev1 ?_
  refine zr_istore_n (lv' := [(3, .int v1), (0, .ref (zw_ad P 45)), (1, .int x1), (2, .int x2)]) E dX4_append_3 (by decide) rfl ?_
  refine zr_sub (lv' := [(0, .ref (zw_ad P 45)), (1, .int x1), (3, .int v1)]) [1, 2, 0] rfl ?_
  exact t_X4_append_4 E hr 200 σ x1 v1 hm
-- X4_clear
set_option maxRecDepth 100000 in
set_option maxHeartbeats 4000000 in
theorem c_X4_clear (l : Launch) (P : zw_P) (σ : zw_S) : zc_i l P yX4_clear cX4_clear 2 .int 0 [.ref (zw_ad P 45)] σ (m_X4_clear σ) := by
  refine zc_i.of (by decide) (Nat.le_of_ble_eq_true rfl) (fun B r τ E hl hr hm => ?_)
  subst hl
  refine zr_sub (lv' := [(0, .ref (zw_ad P 45))]) [0] rfl ?_
  unfold m_X4_clear at hm
  refine zr_aload_n E dX4_clear_0 0 rfl ?_
  refine fg_X4_15 E dX4_clear_1 ?_
  obtain ⟨v1, ev1, hm⟩ := nm_some hm
  refine zr_top ev1 ?_
  refine zr_istore_n (lv' := [(1, .int v1), (0, .ref (zw_ad P 45))]) E dX4_clear_4 (by decide) rfl ?_
  refine zr_aload_n E dX4_clear_5 1 rfl ?_
  refine zr_iconst (v := 0) E dX4_clear_6 (by decide) ?_
  obtain ⟨s2, es2, hm⟩ := nm_some hm
  refine fp_X4_15 E es2 dX4_clear_7 ?_
  refine zr_iload_n E dX4_clear_10 0 rfl ?_
  exact zr_iret E hr rfl hm dX4_clear_11
-- X4_isDigit
set_option maxRecDepth 100000 in
set_option maxHeartbeats 4000000 in
theorem c_X4_isDigit (l : Launch) (P : zw_P) (σ : zw_S) (x1 : Int32) : zc_i l P yX4_isDigit cX4_isDigit 2 .boolean 0 [.ref (zw_ad P 45), .int x1] σ (m_X4_isDigit σ x1) := by
  refine zc_i.of (by decide) (Nat.le_of_ble_eq_true rfl) (fun B r τ E hl hr hm => ?_)
  subst hl
  refine zr_sub (lv' := [(0, .ref (zw_ad P 45)), (1, .int x1)]) [0, 1] rfl ?_
  unfold m_X4_isDigit at hm
  refine zr_aload_n E dX4_isDigit_0 0 rfl ?_
  refine fg_X4_11 E dX4_isDigit_1 ?_
  refine zr_iload_n E dX4_isDigit_4 1 rfl ?_
  obtain ⟨hv1, v1, ev1, hm⟩ := rd_some hm
  refine zr_iald E ac_46 hv1 ev1 dX4_isDigit_5 ?_
  refine zr_bipush (v := 48) E dX4_isDigit_6 (by decide) ?_
  refine zr_icmp_lt (tgt := 26) E dX4_isDigit_8 (by decide) (fun c2 => ?_) (fun c2 => ?_)
  · rw [if_pos c2] at hm
    refine zr_iconst (v := 0) E dX4_isDigit_26 (by decide) ?_
    exact zr_iret E hr (by decide) hm dX4_isDigit_27
  · rw [if_neg c2] at hm
    refine zr_aload_n E dX4_isDigit_11 0 rfl ?_
    refine fg_X4_11 E dX4_isDigit_12 ?_
    refine zr_iload_n E dX4_isDigit_15 1 rfl ?_
    obtain ⟨hv3, v3, ev3, hm⟩ := rd_some hm
    refine zr_iald E ac_46 hv3 ev3 dX4_isDigit_16 ?_
    refine zr_bipush (v := 57) E dX4_isDigit_17 (by decide) ?_
    refine zr_icmp_gt (tgt := 26) E dX4_isDigit_19 (by decide) (fun c4 => ?_) (fun c4 => ?_)
    · rw [if_pos c4] at hm
      refine zr_iconst (v := 0) E dX4_isDigit_26 (by decide) ?_
      exact zr_iret E hr (by decide) hm dX4_isDigit_27
    · rw [if_neg c4] at hm
      refine zr_iconst (v := 1) E dX4_isDigit_22 (by decide) ?_
      refine zr_goto (tgt := 27) E dX4_isDigit_23 (by decide) ?_
      exact zr_iret E hr (by decide) hm dX4_isDigit_27
-- X4_isLetter
set_option maxRecDepth 100000 in
set_option maxHeartbeats 4000000 in
theorem c_X4_isLetter (l : Launch) (P : zw_P) (σ : zw_S) (x1 : Int32) : zc_i l P yX4_isLetter cX4_isLetter 2 .boolean 0 [.ref (zw_ad P 45), .int x1] σ (m_X4_isLetter σ x1) := by
  refine zc_i.of (by decide) (Nat.le_of_ble_eq_true rfl) (fun B r τ E hl hr hm => ?_)
  subst hl
  refine zr_sub (lv' := [(0, .ref (zw_ad P 45)), (1, .int x1)]) [0, 1] rfl ?_
  unfold m_X4_isLetter at hm
  refine zr_aload_n E dX4_isLetter_0 0 rfl ?_
  refine fg_X4_11 E dX4_isLetter_1 ?_
  refine zr_iload_n E dX4_isLetter_4 1 rfl ?_
  obtain ⟨hv1, v1, ev1, hm⟩ := rd_some hm
  refine zr_iald E ac_46 hv1 ev1 dX4_isLetter_5 ?_
  refine zr_bipush (v := 97) E dX4_isLetter_6 (by decide) ?_
  refine zr_icmp_lt (tgt := 26) E dX4_isLetter_8 (by decide) (fun c2 => ?_) (fun c2 => ?_)
  · rw [if_pos c2] at hm
    refine zr_iconst (v := 0) E dX4_isLetter_26 (by decide) ?_
    exact zr_iret E hr (by decide) hm dX4_isLetter_27
  · rw [if_neg c2] at hm
    refine zr_aload_n E dX4_isLetter_11 0 rfl ?_
    refine fg_X4_11 E dX4_isLetter_12 ?_
    refine zr_iload_n E dX4_isLetter_15 1 rfl ?_
    obtain ⟨hv3, v3, ev3, hm⟩ := rd_some hm
    refine zr_iald E ac_46 hv3 ev3 dX4_isLetter_16 ?_
    refine zr_bipush (v := 122) E dX4_isLetter_17 (by decide) ?_
    refine zr_icmp_gt (tgt := 26) E dX4_isLetter_19 (by decide) (fun c4 => ?_) (fun c4 => ?_)
    · rw [if_pos c4] at hm
      refine zr_iconst (v := 0) E dX4_isLetter_26 (by decide) ?_
      exact zr_iret E hr (by decide) hm dX4_isLetter_27
    · rw [if_neg c4] at hm
      refine zr_iconst (v := 1) E dX4_isLetter_22 (by decide) ?_
      refine zr_goto (tgt := 27) E dX4_isLetter_23 (by decide) ?_
      exact zr_iret E hr (by decide) hm dX4_isLetter_27
-- X4_readNumber
set_option maxRecDepth 100000 in
set_option maxHeartbeats 4000000 in
theorem t_X4_readNumber_5 {B : zw_B} {P : zw_P} {τ : zw_S} (E : zf B P cX4_readNumber RX4 1 1) (hr : B.2.2.2.2.2.2.2.2.1.sig.returnType = none) : ∀ (n : Nat) (σ : zw_S), m_X4_readNumber_5 n σ = some τ → zw_G B P (zq_v B P τ) 1 σ 5 [(0, .ref (zw_ad P 45))] [] := by
  intro n
  induction n with
  | zero => intro σ hm; cases hm
  | succ n ih =>
    intro σ hm
    unfold m_X4_readNumber_5 at hm
    refine zr_aload_n E dX4_readNumber_5 0 rfl ?_
    refine fg_X4_19 E dX4_readNumber_6 ?_
    refine zr_aload_n E dX4_readNumber_9 0 rfl ?_
    refine fg_X4_15 E dX4_readNumber_10 ?_
    refine zr_icmp_ge (tgt := 70) E dX4_readNumber_13 (by decide) (fun c1 => ?_) (fun c1 => ?_)
    · rw [if_pos c1] at hm
      exact zr_vret E hr hm dX4_readNumber_70
    · rw [if_neg c1] at hm
      refine zr_aload_n E dX4_readNumber_16 0 rfl ?_
      refine zr_aload_n E dX4_readNumber_17 0 rfl ?_
      refine fg_X4_19 E dX4_readNumber_18 ?_
      obtain ⟨r3, s2, os2, hm⟩ := cl_some hm
      refine zr_cVi (st := []) E mw_842 cm_X4_isDigit (c_X4_isDigit B.2.1 P σ (σ 45 4)) os2 (rc_45 P) ⟨by decide, by decide⟩ rfl rfl (Nat.le_of_ble_eq_true rfl) dX4_readNumber_21 ?_
      refine zr_if_eq (tgt := 70) E dX4_readNumber_24 (by decide) (fun c4 => ?_) (fun c4 => ?_)
      · rw [if_pos c4] at hm
        exact zr_vret E hr hm dX4_readNumber_70
      · rw [if_neg c4] at hm
        refine zr_aload_n E dX4_readNumber_27 0 rfl ?_
        refine zr_sipush (v := 10000) E dX4_readNumber_28 (by decide) ?_
        refine zr_aload_n E dX4_readNumber_31 0 rfl ?_
        refine fg_X4_45 E dX4_readNumber_32 ?_
        refine zr_bipush (v := 10) E dX4_readNumber_35 (by decide) ?_
        refine zr_imul E dX4_readNumber_37 ?_
        refine zr_aload_n E dX4_readNumber_38 0 rfl ?_
        refine fg_X4_11 E dX4_readNumber_39 ?_
        refine zr_aload_n E dX4_readNumber_42 0 rfl ?_
        refine fg_X4_19 E dX4_readNumber_43 ?_
        obtain ⟨hv5, v5, ev5, hm⟩ := rd_some hm
        refine zr_iald E ac_46 hv5 ev5 dX4_readNumber_46 ?_
        refine zr_iadd E dX4_readNumber_47 ?_
        refine zr_bipush (v := 48) E dX4_readNumber_48 (by decide) ?_
        refine zr_isub E dX4_readNumber_50 ?_
        refine zr_min (h := 0) E mw_851 mM_min_1 mM_min_2 mM_min_3 (Nat.le_of_ble_eq_true rfl) dX4_readNumber_51 ?_
        obtain ⟨s6, es6, hm⟩ := nm_some hm
        refine fp_X4_45 E es6 dX4_readNumber_54 ?_
        refine zr_aload_n E dX4_readNumber_57 0 rfl ?_
        refine zr_dup E dX4_readNumber_58 rfl ?_
        refine fg_X4_19 E dX4_readNumber_59 ?_
        refine zr_iconst (v := 1) E dX4_readNumber_62 (by decide) ?_
        refine zr_iadd E dX4_readNumber_63 ?_
        obtain ⟨s7, es7, hm⟩ := nm_some hm
        refine fp_X4_19 E es7 dX4_readNumber_64 ?_
        refine zr_goto (tgt := 5) E dX4_readNumber_67 (by decide) ?_
        refine zr_sub (lv' := [(0, .ref (zw_ad P 45))]) [0] rfl ?_
        exact ih s7 hm
set_option maxRecDepth 100000 in
set_option maxHeartbeats 4000000 in
theorem c_X4_readNumber (l : Launch) (P : zw_P) (σ : zw_S) : zc_v l P yX4_readNumber cX4_readNumber 1 1 [.ref (zw_ad P 45)] σ (m_X4_readNumber σ) := by
  refine zc_v.of (by decide) (Nat.le_of_ble_eq_true rfl) (fun B τ E hl hr hm => ?_)
  subst hl
  refine zr_sub (lv' := [(0, .ref (zw_ad P 45))]) [0] rfl ?_
  unfold m_X4_readNumber at hm
  refine zr_aload_n E dX4_readNumber_0 0 rfl ?_
  refine zr_iconst (v := 0) E dX4_readNumber_1 (by decide) ?_
  obtain ⟨s1, es1, hm⟩ := nm_some hm
  refine fp_X4_45 E es1 dX4_readNumber_2 ?_
  refine zr_sub (lv' := [(0, .ref (zw_ad P 45))]) [0] rfl ?_
  exact t_X4_readNumber_5 E hr 200 s1 hm
-- X4_advance
set_option maxRecDepth 100000 in
set_option maxHeartbeats 4000000 in
theorem t_X4_advance_89 {B : zw_B} {P : zw_P} {τ : zw_S} (E : zf B P cX4_advance RX4 1 2) (hr : B.2.2.2.2.2.2.2.2.1.sig.returnType = none) : ∀ (n : Nat) (σ : zw_S), m_X4_advance_89 n σ = some τ → zw_G B P (zq_v B P τ) 1 σ 89 [(0, .ref (zw_ad P 45))] [] := by
  intro n
  induction n with
  | zero => intro σ hm; cases hm
  | succ n ih =>
    intro σ hm
    unfold m_X4_advance_89 at hm
    refine zr_aload_n E dX4_advance_89 0 rfl ?_
    refine fg_X4_19 E dX4_advance_90 ?_
    refine zr_aload_n E dX4_advance_93 0 rfl ?_
    refine fg_X4_15 E dX4_advance_94 ?_
    refine zr_icmp_ge (tgt := 180) E dX4_advance_97 (by decide) (fun c1 => ?_) (fun c1 => ?_)
    · rw [if_pos c1] at hm
      exact zr_vret E hr hm dX4_advance_180
    · rw [if_neg c1] at hm
      refine zr_aload_n E dX4_advance_100 0 rfl ?_
      refine zr_aload_n E dX4_advance_101 0 rfl ?_
      refine fg_X4_19 E dX4_advance_102 ?_
      obtain ⟨r3, s2, os2, hm⟩ := cl_some hm
      refine zr_cVi (st := []) E mw_838 cm_X4_isLetter (c_X4_isLetter B.2.1 P σ (σ 45 4)) os2 (rc_45 P) ⟨by decide, by decide⟩ rfl rfl (Nat.le_of_ble_eq_true rfl) dX4_advance_105 ?_
      refine zr_if_eq (tgt := 180) E dX4_advance_108 (by decide) (fun c4 => ?_) (fun c4 => ?_)
      · rw [if_pos c4] at hm
        exact zr_vret E hr hm dX4_advance_180
      · rw [if_neg c4] at hm
        refine zr_aload_n E dX4_advance_111 0 rfl ?_
        refine zr_dup E dX4_advance_112 rfl ?_
        refine fg_X4_19 E dX4_advance_113 ?_
        refine zr_iconst (v := 1) E dX4_advance_116 (by decide) ?_
        refine zr_iadd E dX4_advance_117 ?_
        obtain ⟨s5, es5, hm⟩ := nm_some hm
        refine fp_X4_19 E es5 dX4_advance_118 ?_
        refine zr_goto (tgt := 89) E dX4_advance_121 (by decide) ?_
        refine zr_sub (lv' := [(0, .ref (zw_ad P 45))]) [0] rfl ?_
        exact ih s5 hm
set_option maxRecDepth 100000 in
set_option maxHeartbeats 4000000 in
theorem t_X4_advance_46 {B : zw_B} {P : zw_P} {τ : zw_S} (E : zf B P cX4_advance RX4 1 2) (hr : B.2.2.2.2.2.2.2.2.1.sig.returnType = none) (σ : zw_S) (hm : m_X4_advance_46 σ = some τ) : zw_G B P (zq_v B P τ) 1 σ 46 [(0, .ref (zw_ad P 45))] [] := by
  unfold m_X4_advance_46 at hm
  refine zr_aload_n E dX4_advance_46 0 rfl ?_
  refine zr_aload_n E dX4_advance_47 0 rfl ?_
  refine fg_X4_32 E dX4_advance_48 ?_
  obtain ⟨s1, es1, hm⟩ := nm_some hm
  refine fp_X4_19 E es1 dX4_advance_51 ?_
  refine zr_aload_n E dX4_advance_54 0 rfl ?_
  refine fg_X4_32 E dX4_advance_55 ?_
  refine zr_aload_n E dX4_advance_58 0 rfl ?_
  refine fg_X4_15 E dX4_advance_59 ?_
  refine zr_icmp_lt (tgt := 73) E dX4_advance_62 (by decide) (fun c2 => ?_) (fun c2 => ?_)
  · rw [if_pos c2] at hm
    refine zr_aload_n E dX4_advance_73 0 rfl ?_
    refine zr_aload_n E dX4_advance_74 0 rfl ?_
    refine fg_X4_32 E dX4_advance_75 ?_
    obtain ⟨r4, s3, os3, hm⟩ := cl_some hm
    refine zr_cVi (st := []) E mw_838 cm_X4_isLetter (c_X4_isLetter B.2.1 P s1 (s1 45 3)) os3 (rc_45 P) ⟨by decide, by decide⟩ rfl rfl (Nat.le_of_ble_eq_true rfl) dX4_advance_78 ?_
    refine zr_if_eq (tgt := 124) E dX4_advance_81 (by decide) (fun c5 => ?_) (fun c5 => ?_)
    · rw [if_pos c5] at hm
      refine zr_aload_n E dX4_advance_124 0 rfl ?_
      refine zr_aload_n E dX4_advance_125 0 rfl ?_
      refine fg_X4_32 E dX4_advance_126 ?_
      obtain ⟨r7, s6, os6, hm⟩ := cl_some hm
      refine zr_cVi (st := []) E mw_842 cm_X4_isDigit (c_X4_isDigit B.2.1 P s3 (s3 45 3)) os6 (rc_45 P) ⟨by decide, by decide⟩ rfl rfl (Nat.le_of_ble_eq_true rfl) dX4_advance_129 ?_
      refine zr_if_eq (tgt := 147) E dX4_advance_132 (by decide) (fun c8 => ?_) (fun c8 => ?_)
      · rw [if_pos c8] at hm
        refine zr_aload_n E dX4_advance_147 0 rfl ?_
        refine zr_aload_n E dX4_advance_148 0 rfl ?_
        refine fg_X4_11 E dX4_advance_149 ?_
        refine zr_aload_n E dX4_advance_152 0 rfl ?_
        refine fg_X4_32 E dX4_advance_153 ?_
        obtain ⟨hv9, v9, ev9, hm⟩ := rd_some hm
        refine zr_iald E ac_46 hv9 ev9 dX4_advance_156 ?_
        refine zr_bipush (v := 59) E dX4_advance_157 (by decide) ?_
        refine zr_icmp_ne (tgt := 166) E dX4_advance_159 (by decide) (fun c10 => ?_) (fun c10 => ?_)
        · rw [if_neg c10] at hm
          refine zr_iconst (v := 4) E dX4_advance_166 (by decide) ?_
          obtain ⟨s11, es11, hm⟩ := nm_some hm
          refine fp_X4_29 E es11 dX4_advance_167 ?_
          refine zr_aload_n E dX4_advance_170 0 rfl ?_
          refine zr_aload_n E dX4_advance_171 0 rfl ?_
          refine fg_X4_32 E dX4_advance_172 ?_
          refine zr_iconst (v := 1) E dX4_advance_175 (by decide) ?_
          refine zr_iadd E dX4_advance_176 ?_
          obtain ⟨s12, es12, hm⟩ := nm_some hm
          refine fp_X4_19 E es12 dX4_advance_177 ?_
          exact zr_vret E hr hm dX4_advance_180
        · rw [if_pos c10] at hm
          refine zr_iconst (v := 3) E dX4_advance_162 (by decide) ?_
          refine zr_goto (tgt := 167) E dX4_advance_163 (by decide) ?_
          obtain ⟨s13, es13, hm⟩ := nm_some hm
          refine fp_X4_29 E es13 dX4_advance_167 ?_
          refine zr_aload_n E dX4_advance_170 0 rfl ?_
          refine zr_aload_n E dX4_advance_171 0 rfl ?_
          refine fg_X4_32 E dX4_advance_172 ?_
          refine zr_iconst (v := 1) E dX4_advance_175 (by decide) ?_
          refine zr_iadd E dX4_advance_176 ?_
          obtain ⟨s14, es14, hm⟩ := nm_some hm
          refine fp_X4_19 E es14 dX4_advance_177 ?_
          exact zr_vret E hr hm dX4_advance_180
      · rw [if_neg c8] at hm
        refine zr_aload_n E dX4_advance_135 0 rfl ?_
        refine zr_iconst (v := 2) E dX4_advance_136 (by decide) ?_
        obtain ⟨s15, es15, hm⟩ := nm_some hm
        refine fp_X4_29 E es15 dX4_advance_137 ?_
        refine zr_aload_n E dX4_advance_140 0 rfl ?_
        obtain ⟨s16, os16, hm⟩ := cv_some hm
        refine zr_cVv (st := []) E mw_846 cm_X4_readNumber (c_X4_readNumber B.2.1 P s15) os16 (rc_45 P) ⟨by decide, by decide⟩ rfl rfl (Nat.le_of_ble_eq_true rfl) dX4_advance_141 ?_
        refine zr_goto (tgt := 180) E dX4_advance_144 (by decide) ?_
        exact zr_vret E hr hm dX4_advance_180
    · rw [if_neg c5] at hm
      refine zr_aload_n E dX4_advance_84 0 rfl ?_
      refine zr_iconst (v := 1) E dX4_advance_85 (by decide) ?_
      obtain ⟨s17, es17, hm⟩ := nm_some hm
      refine fp_X4_29 E es17 dX4_advance_86 ?_
      refine zr_sub (lv' := [(0, .ref (zw_ad P 45))]) [0] rfl ?_
      exact t_X4_advance_89 E hr 200 s17 hm
  · rw [if_neg c2] at hm
    refine zr_aload_n E dX4_advance_65 0 rfl ?_
    refine zr_iconst (v := 0) E dX4_advance_66 (by decide) ?_
    obtain ⟨s18, es18, hm⟩ := nm_some hm
    refine fp_X4_29 E es18 dX4_advance_67 ?_
    refine zr_goto (tgt := 180) E dX4_advance_70 (by decide) ?_
    exact zr_vret E hr hm dX4_advance_180
set_option maxRecDepth 100000 in
set_option maxHeartbeats 4000000 in
theorem t_X4_advance_8 {B : zw_B} {P : zw_P} {τ : zw_S} (E : zf B P cX4_advance RX4 1 2) (hr : B.2.2.2.2.2.2.2.2.1.sig.returnType = none) : ∀ (n : Nat) (σ : zw_S), m_X4_advance_8 n σ = some τ → zw_G B P (zq_v B P τ) 1 σ 8 [(0, .ref (zw_ad P 45))] [] := by
  intro n
  induction n with
  | zero => intro σ hm; cases hm
  | succ n ih =>
    intro σ hm
    unfold m_X4_advance_8 at hm
    refine zr_aload_n E dX4_advance_8 0 rfl ?_
    refine fg_X4_32 E dX4_advance_9 ?_
    refine zr_aload_n E dX4_advance_12 0 rfl ?_
    refine fg_X4_15 E dX4_advance_13 ?_
    refine zr_icmp_ge (tgt := 46) E dX4_advance_16 (by decide) (fun c1 => ?_) (fun c1 => ?_)
    · rw [if_pos c1] at hm
      refine zr_sub (lv' := [(0, .ref (zw_ad P 45))]) [0] rfl ?_
      exact t_X4_advance_46 E hr σ hm
    · rw [if_neg c1] at hm
      refine zr_aload_n E dX4_advance_19 0 rfl ?_
      refine fg_X4_11 E dX4_advance_20 ?_
      refine zr_aload_n E dX4_advance_23 0 rfl ?_
      refine fg_X4_32 E dX4_advance_24 ?_
      obtain ⟨hv2, v2, ev2, hm⟩ := rd_some hm
      refine zr_iald E ac_46 hv2 ev2 dX4_advance_27 ?_
      refine zr_bipush (v := 32) E dX4_advance_28 (by decide) ?_
      refine zr_icmp_ne (tgt := 46) E dX4_advance_30 (by decide) (fun c3 => ?_) (fun c3 => ?_)
      · rw [if_neg c3] at hm
        refine zr_sub (lv' := [(0, .ref (zw_ad P 45))]) [0] rfl ?_
        exact t_X4_advance_46 E hr σ hm
      · rw [if_pos c3] at hm
        refine zr_aload_n E dX4_advance_33 0 rfl ?_
        refine zr_dup E dX4_advance_34 rfl ?_
        refine fg_X4_32 E dX4_advance_35 ?_
        refine zr_iconst (v := 1) E dX4_advance_38 (by decide) ?_
        refine zr_iadd E dX4_advance_39 ?_
        obtain ⟨s4, es4, hm⟩ := nm_some hm
        refine fp_X4_32 E es4 dX4_advance_40 ?_
        refine zr_goto (tgt := 8) E dX4_advance_43 (by decide) ?_
        refine zr_sub (lv' := [(0, .ref (zw_ad P 45))]) [0] rfl ?_
        exact ih s4 hm
set_option maxRecDepth 100000 in
set_option maxHeartbeats 4000000 in
theorem c_X4_advance (l : Launch) (P : zw_P) (σ : zw_S) : zc_v l P yX4_advance cX4_advance 1 2 [.ref (zw_ad P 45)] σ (m_X4_advance σ) := by
  refine zc_v.of (by decide) (Nat.le_of_ble_eq_true rfl) (fun B τ E hl hr hm => ?_)
  subst hl
  refine zr_sub (lv' := [(0, .ref (zw_ad P 45))]) [0] rfl ?_
  unfold m_X4_advance at hm
  refine zr_aload_n E dX4_advance_0 0 rfl ?_
  refine zr_aload_n E dX4_advance_1 0 rfl ?_
  refine fg_X4_19 E dX4_advance_2 ?_
  obtain ⟨s1, es1, hm⟩ := nm_some hm
  refine fp_X4_32 E es1 dX4_advance_5 ?_
  refine zr_sub (lv' := [(0, .ref (zw_ad P 45))]) [0] rfl ?_
  exact t_X4_advance_8 E hr 200 s1 hm
-- X4_isWord
set_option maxRecDepth 100000 in
set_option maxHeartbeats 4000000 in
theorem t_X4_isWord_28 {B : zw_B} {P : zw_P} {r : Int32} {τ : zw_S} (b1 : Nat) (hb1 : b1 < 15) (E : zf B P cX4_isWord RX4 3 4) (hr : B.2.2.2.2.2.2.2.2.1.sig.returnType = some .boolean) : ∀ (n : Nat) (σ : zw_S) (x2 : Int32), m_X4_isWord_28 b1 n σ x2 = some (r, τ) → zw_G B P (zq_i B P r τ) 3 σ 28 [(0, .ref (zw_ad P 45)), (1, .ref (zw_aK P b1)), (2, .int x2)] [] := by
  intro n
  induction n with
  | zero => intro σ x2 hm; cases hm
  | succ n ih =>
    intro σ x2 hm
    unfold m_X4_isWord_28 at hm
    refine zr_iload_n E dX4_isWord_28 2 rfl ?_
    refine zr_aload_n E dX4_isWord_29 1 rfl ?_
    refine zr_slen (h := 3) (by decide) E hb1 mw_866 (Nat.le_of_ble_eq_true rfl) dX4_isWord_30 ?_
    refine zr_icmp_ge (tgt := 63) E dX4_isWord_33 (by decide) (fun c1 => ?_) (fun c1 => ?_)
    · rw [if_pos c1] at hm
      refine zr_iconst (v := 1) E dX4_isWord_63 (by decide) ?_
      exact zr_iret E hr (by decide) hm dX4_isWord_64
    · rw [if_neg c1] at hm
      refine zr_aload_n E dX4_isWord_36 0 rfl ?_
      refine fg_X4_11 E dX4_isWord_37 ?_
      refine zr_aload_n E dX4_isWord_40 0 rfl ?_
      refine fg_X4_32 E dX4_isWord_41 ?_
      refine zr_iload_n E dX4_isWord_44 2 rfl ?_
      refine zr_iadd E dX4_isWord_45 ?_
      obtain ⟨hv2, v2, ev2, hm⟩ := rd_some hm
      refine zr_iald E ac_46 hv2 ev2 dX4_isWord_46 ?_
      refine zr_aload_n E dX4_isWord_47 1 rfl ?_
      refine zr_iload_n E dX4_isWord_48 2 rfl ?_
      obtain ⟨hz3, hm⟩ := tt_some hm
      refine zr_schar (h := 3) (by decide) E hb1 mw_878 (zi_in hz3) (Nat.le_of_ble_eq_true rfl) dX4_isWord_49 ?_
      refine zr_icmp_eq (tgt := 57) E dX4_isWord_52 (by decide) (fun c4 => ?_) (fun c4 => ?_)
      · rw [if_pos c4] at hm
        obtain ⟨v5, ev5, hm⟩ := nm_some hm
        refine zr_iinc (j := 2) (lv' := [(2, .int v5), (0, .ref (zw_ad P 45)), (1, .ref (zw_aK P b1))]) E dX4_isWord_57 rfl ev5 (by decide) rfl ?_
        refine zr_goto (tgt := 28) E dX4_isWord_60 (by decide) ?_
        refine zr_sub (lv' := [(0, .ref (zw_ad P 45)), (1, .ref (zw_aK P b1)), (2, .int v5)]) [1, 2, 0] rfl ?_
        exact ih σ v5 hm
      · rw [if_neg c4] at hm
        refine zr_iconst (v := 0) E dX4_isWord_55 (by decide) ?_
        exact zr_iret E hr (by decide) hm dX4_isWord_56
set_option maxRecDepth 100000 in
set_option maxHeartbeats 4000000 in
theorem c_X4_isWord (l : Launch) (P : zw_P) (b1 : Nat) (hb1 : b1 < 15) (σ : zw_S) : zc_i l P yX4_isWord cX4_isWord 3 .boolean 4 [.ref (zw_ad P 45), .ref (zw_aK P b1)] σ (m_X4_isWord b1 σ) := by
  refine zc_i.of (by decide) (Nat.le_of_ble_eq_true rfl) (fun B r τ E hl hr hm => ?_)
  subst hl
  refine zr_sub (lv' := [(0, .ref (zw_ad P 45)), (1, .ref (zw_aK P b1))]) [0, 1] rfl ?_
  unfold m_X4_isWord at hm
  refine zr_aload_n E dX4_isWord_0 0 rfl ?_
  refine fg_X4_29 E dX4_isWord_1 ?_
  refine zr_iconst (v := 1) E dX4_isWord_4 (by decide) ?_
  refine zr_icmp_ne (tgt := 24) E dX4_isWord_5 (by decide) (fun c1 => ?_) (fun c1 => ?_)
  · rw [if_neg c1] at hm
    refine zr_iconst (v := 0) E dX4_isWord_24 (by decide) ?_
    exact zr_iret E hr (by decide) hm dX4_isWord_25
  · rw [if_pos c1] at hm
    refine zr_aload_n E dX4_isWord_8 0 rfl ?_
    refine fg_X4_19 E dX4_isWord_9 ?_
    refine zr_aload_n E dX4_isWord_12 0 rfl ?_
    refine fg_X4_32 E dX4_isWord_13 ?_
    refine zr_isub E dX4_isWord_16 ?_
    refine zr_aload_n E dX4_isWord_17 1 rfl ?_
    refine zr_slen (h := 3) (by decide) E hb1 mw_866 (Nat.le_of_ble_eq_true rfl) dX4_isWord_18 ?_
    refine zr_icmp_eq (tgt := 26) E dX4_isWord_21 (by decide) (fun c2 => ?_) (fun c2 => ?_)
    · rw [if_pos c2] at hm
      refine zr_iconst (v := 0) E dX4_isWord_26 (by decide) ?_
      refine zr_istore_n (lv' := [(2, .int 0), (0, .ref (zw_ad P 45)), (1, .ref (zw_aK P b1))]) E dX4_isWord_27 (by decide) rfl ?_
      refine zr_sub (lv' := [(0, .ref (zw_ad P 45)), (1, .ref (zw_aK P b1)), (2, .int 0)]) [1, 2, 0] rfl ?_
      exact t_X4_isWord_28 b1 hb1 E hr 200 σ 0 hm
    · rw [if_neg c2] at hm
      refine zr_iconst (v := 0) E dX4_isWord_24 (by decide) ?_
      exact zr_iret E hr (by decide) hm dX4_isWord_25
-- X4_kindHere
set_option maxRecDepth 100000 in
set_option maxHeartbeats 4000000 in
theorem c_X4_kindHere (l : Launch) (P : zw_P) (σ : zw_S) : zc_i l P yX4_kindHere cX4_kindHere 1 .int 5 [.ref (zw_ad P 45)] σ (m_X4_kindHere σ) := by
  refine zc_i.of (by decide) (Nat.le_of_ble_eq_true rfl) (fun B r τ E hl hr hm => ?_)
  subst hl
  refine zr_sub (lv' := [(0, .ref (zw_ad P 45))]) [0] rfl ?_
  unfold m_X4_kindHere at hm
  refine zr_aload_n E dX4_kindHere_0 0 rfl ?_
  refine zr_ldcT E rfl 6 (by decide) rfl dX4_kindHere_1 ?_
  obtain ⟨r2, s1, os1, hm⟩ := cl_some hm
  refine zr_cVi (st := []) E mw_862 cm_X4_isWord (c_X4_isWord B.2.1 P 6 (by decide) σ) os1 (rc_45 P) ⟨by decide, by decide⟩ rfl rfl (Nat.le_of_ble_eq_true rfl) dX4_kindHere_3 ?_
  refine zr_if_eq (tgt := 11) E dX4_kindHere_6 (by decide) (fun c3 => ?_) (fun c3 => ?_)
  · rw [if_pos c3] at hm
    refine zr_aload_n E dX4_kindHere_11 0 rfl ?_
    refine zr_ldcT E rfl 7 (by decide) rfl dX4_kindHere_12 ?_
    obtain ⟨r5, s4, os4, hm⟩ := cl_some hm
    refine zr_cVi (st := []) E mw_862 cm_X4_isWord (c_X4_isWord B.2.1 P 7 (by decide) s1) os4 (rc_45 P) ⟨by decide, by decide⟩ rfl rfl (Nat.le_of_ble_eq_true rfl) dX4_kindHere_14 ?_
    refine zr_if_eq (tgt := 22) E dX4_kindHere_17 (by decide) (fun c6 => ?_) (fun c6 => ?_)
    · rw [if_pos c6] at hm
      refine zr_aload_n E dX4_kindHere_22 0 rfl ?_
      refine zr_ldcT E rfl 8 (by decide) rfl dX4_kindHere_23 ?_
      obtain ⟨r8, s7, os7, hm⟩ := cl_some hm
      refine zr_cVi (st := []) E mw_862 cm_X4_isWord (c_X4_isWord B.2.1 P 8 (by decide) s4) os7 (rc_45 P) ⟨by decide, by decide⟩ rfl rfl (Nat.le_of_ble_eq_true rfl) dX4_kindHere_25 ?_
      refine zr_if_eq (tgt := 33) E dX4_kindHere_28 (by decide) (fun c9 => ?_) (fun c9 => ?_)
      · rw [if_pos c9] at hm
        refine zr_aload_n E dX4_kindHere_33 0 rfl ?_
        refine zr_ldcT E rfl 9 (by decide) rfl dX4_kindHere_34 ?_
        obtain ⟨r11, s10, os10, hm⟩ := cl_some hm
        refine zr_cVi (st := []) E mw_862 cm_X4_isWord (c_X4_isWord B.2.1 P 9 (by decide) s7) os10 (rc_45 P) ⟨by decide, by decide⟩ rfl rfl (Nat.le_of_ble_eq_true rfl) dX4_kindHere_36 ?_
        refine zr_if_eq (tgt := 44) E dX4_kindHere_39 (by decide) (fun c12 => ?_) (fun c12 => ?_)
        · rw [if_pos c12] at hm
          refine zr_aload_n E dX4_kindHere_44 0 rfl ?_
          refine zr_ldcT E rfl 10 (by decide) rfl dX4_kindHere_45 ?_
          obtain ⟨r14, s13, os13, hm⟩ := cl_some hm
          refine zr_cVi (st := []) E mw_862 cm_X4_isWord (c_X4_isWord B.2.1 P 10 (by decide) s10) os13 (rc_45 P) ⟨by decide, by decide⟩ rfl rfl (Nat.le_of_ble_eq_true rfl) dX4_kindHere_47 ?_
          refine zr_if_eq (tgt := 55) E dX4_kindHere_50 (by decide) (fun c15 => ?_) (fun c15 => ?_)
          · rw [if_pos c15] at hm
            refine zr_aload_n E dX4_kindHere_55 0 rfl ?_
            refine zr_ldcT E rfl 11 (by decide) rfl dX4_kindHere_56 ?_
            obtain ⟨r17, s16, os16, hm⟩ := cl_some hm
            refine zr_cVi (st := []) E mw_862 cm_X4_isWord (c_X4_isWord B.2.1 P 11 (by decide) s13) os16 (rc_45 P) ⟨by decide, by decide⟩ rfl rfl (Nat.le_of_ble_eq_true rfl) dX4_kindHere_58 ?_
            refine zr_if_eq (tgt := 66) E dX4_kindHere_61 (by decide) (fun c18 => ?_) (fun c18 => ?_)
            · rw [if_pos c18] at hm
              refine zr_aload_n E dX4_kindHere_66 0 rfl ?_
              refine zr_ldcT E rfl 12 (by decide) rfl dX4_kindHere_67 ?_
              obtain ⟨r20, s19, os19, hm⟩ := cl_some hm
              refine zr_cVi (st := []) E mw_862 cm_X4_isWord (c_X4_isWord B.2.1 P 12 (by decide) s16) os19 (rc_45 P) ⟨by decide, by decide⟩ rfl rfl (Nat.le_of_ble_eq_true rfl) dX4_kindHere_69 ?_
              refine zr_if_eq (tgt := 80) E dX4_kindHere_72 (by decide) (fun c21 => ?_) (fun c21 => ?_)
              · rw [if_pos c21] at hm
                refine zr_iconst (v := (-1)) E dX4_kindHere_80 (by decide) ?_
                exact zr_iret E hr rfl hm dX4_kindHere_81
              · rw [if_neg c21] at hm
                refine zr_bipush (v := 6) E dX4_kindHere_75 (by decide) ?_
                refine zr_goto (tgt := 81) E dX4_kindHere_77 (by decide) ?_
                exact zr_iret E hr rfl hm dX4_kindHere_81
            · rw [if_neg c18] at hm
              refine zr_iconst (v := 5) E dX4_kindHere_64 (by decide) ?_
              exact zr_iret E hr rfl hm dX4_kindHere_65
          · rw [if_neg c15] at hm
            refine zr_iconst (v := 4) E dX4_kindHere_53 (by decide) ?_
            exact zr_iret E hr rfl hm dX4_kindHere_54
        · rw [if_neg c12] at hm
          refine zr_iconst (v := 3) E dX4_kindHere_42 (by decide) ?_
          exact zr_iret E hr rfl hm dX4_kindHere_43
      · rw [if_neg c9] at hm
        refine zr_iconst (v := 2) E dX4_kindHere_31 (by decide) ?_
        exact zr_iret E hr rfl hm dX4_kindHere_32
    · rw [if_neg c6] at hm
      refine zr_iconst (v := 1) E dX4_kindHere_20 (by decide) ?_
      exact zr_iret E hr rfl hm dX4_kindHere_21
  · rw [if_neg c3] at hm
    refine zr_iconst (v := 0) E dX4_kindHere_9 (by decide) ?_
    exact zr_iret E hr rfl hm dX4_kindHere_10
-- X4_passWord
set_option maxRecDepth 100000 in
set_option maxHeartbeats 4000000 in
theorem c_X4_passWord (l : Launch) (P : zw_P) (b1 : Nat) (hb1 : b1 < 15) (σ : zw_S) : zc_i l P yX4_passWord cX4_passWord 3 .boolean 5 [.ref (zw_ad P 45), .ref (zw_aK P b1)] σ (m_X4_passWord b1 σ) := by
  refine zc_i.of (by decide) (Nat.le_of_ble_eq_true rfl) (fun B r τ E hl hr hm => ?_)
  subst hl
  refine zr_sub (lv' := [(0, .ref (zw_ad P 45)), (1, .ref (zw_aK P b1))]) [0, 1] rfl ?_
  unfold m_X4_passWord at hm
  refine zr_aload_n E dX4_passWord_0 0 rfl ?_
  refine zr_aload_n E dX4_passWord_1 1 rfl ?_
  obtain ⟨r2, s1, os1, hm⟩ := cl_some hm
  refine zr_cVi (st := []) E mw_862 cm_X4_isWord (c_X4_isWord B.2.1 P b1 hb1 σ) os1 (rc_45 P) ⟨by decide, by decide⟩ rfl rfl (Nat.le_of_ble_eq_true rfl) dX4_passWord_2 ?_
  refine zr_istore_n (lv' := [(2, .int r2), (0, .ref (zw_ad P 45)), (1, .ref (zw_aK P b1))]) E dX4_passWord_5 (by decide) rfl ?_
  refine zr_iload_n E dX4_passWord_6 0 rfl ?_
  refine zr_if_eq (tgt := 14) E dX4_passWord_7 (by decide) (fun c3 => ?_) (fun c3 => ?_)
  · rw [if_pos c3] at hm
    refine zr_iload_n E dX4_passWord_14 0 rfl ?_
    obtain ⟨hz4, hm⟩ := tt_some hm
    exact zr_iret E hr (zz_nar (zz_some hz4)) hm dX4_passWord_15
  · rw [if_neg c3] at hm
    refine zr_aload_n E dX4_passWord_10 1 rfl ?_
    obtain ⟨s5, os5, hm⟩ := cv_some hm
    refine zr_cVv (st := []) E mw_834 cm_X4_advance (c_X4_advance B.2.1 P s1) os5 (rc_45 P) ⟨by decide, by decide⟩ rfl rfl (Nat.le_of_ble_eq_true rfl) dX4_passWord_11 ?_
    refine zr_iload_n E dX4_passWord_14 0 rfl ?_
    obtain ⟨hz6, hm⟩ := tt_some hm
    exact zr_iret E hr (zz_nar (zz_some hz6)) hm dX4_passWord_15
-- X4_passNumber
set_option maxRecDepth 100000 in
set_option maxHeartbeats 4000000 in
theorem c_X4_passNumber (l : Launch) (P : zw_P) (σ : zw_S) (x1 : Int32) (x2 : Int32) : zc_i l P yX4_passNumber cX4_passNumber 4 .int 3 [.ref (zw_ad P 45), .int x1, .int x2] σ (m_X4_passNumber σ x1 x2) := by
  refine zc_i.of (by decide) (Nat.le_of_ble_eq_true rfl) (fun B r τ E hl hr hm => ?_)
  subst hl
  refine zr_sub (lv' := [(0, .ref (zw_ad P 45)), (1, .int x1), (2, .int x2)]) [0, 1, 2] rfl ?_
  unfold m_X4_passNumber at hm
  refine zr_aload_n E dX4_passNumber_0 0 rfl ?_
  refine fg_X4_29 E dX4_passNumber_1 ?_
  refine zr_iconst (v := 2) E dX4_passNumber_4 (by decide) ?_
  refine zr_icmp_ne (tgt := 24) E dX4_passNumber_5 (by decide) (fun c1 => ?_) (fun c1 => ?_)
  · rw [if_neg c1] at hm
    refine zr_iconst (v := (-1)) E dX4_passNumber_24 (by decide) ?_
    exact zr_iret E hr rfl hm dX4_passNumber_25
  · rw [if_pos c1] at hm
    refine zr_aload_n E dX4_passNumber_8 0 rfl ?_
    refine fg_X4_45 E dX4_passNumber_9 ?_
    refine zr_iload_n E dX4_passNumber_12 1 rfl ?_
    refine zr_icmp_lt (tgt := 24) E dX4_passNumber_13 (by decide) (fun c2 => ?_) (fun c2 => ?_)
    · rw [if_pos c2] at hm
      refine zr_iconst (v := (-1)) E dX4_passNumber_24 (by decide) ?_
      exact zr_iret E hr rfl hm dX4_passNumber_25
    · rw [if_neg c2] at hm
      refine zr_aload_n E dX4_passNumber_16 0 rfl ?_
      refine fg_X4_45 E dX4_passNumber_17 ?_
      refine zr_iload_n E dX4_passNumber_20 2 rfl ?_
      refine zr_icmp_le (tgt := 26) E dX4_passNumber_21 (by decide) (fun c3 => ?_) (fun c3 => ?_)
      · rw [if_pos c3] at hm
        refine zr_aload_n E dX4_passNumber_26 0 rfl ?_
        refine fg_X4_45 E dX4_passNumber_27 ?_
        obtain ⟨v4, ev4, hm⟩ := nm_some hm
        refine zr_top ev4 ?_
        refine zr_istore_n (lv' := [(3, .int v4), (0, .ref (zw_ad P 45)), (1, .int x1), (2, .int x2)]) E dX4_passNumber_30 (by decide) rfl ?_
        refine zr_aload_n E dX4_passNumber_31 1 rfl ?_
        obtain ⟨s5, os5, hm⟩ := cv_some hm
        refine zr_cVv (st := []) E mw_834 cm_X4_advance (c_X4_advance B.2.1 P σ) os5 (rc_45 P) ⟨by decide, by decide⟩ rfl rfl (Nat.le_of_ble_eq_true rfl) dX4_passNumber_32 ?_
        refine zr_iload_n E dX4_passNumber_35 0 rfl ?_
        exact zr_iret E hr rfl hm dX4_passNumber_36
      · rw [if_neg c3] at hm
        refine zr_iconst (v := (-1)) E dX4_passNumber_24 (by decide) ?_
        exact zr_iret E hr rfl hm dX4_passNumber_25
-- X4_readName
set_option maxRecDepth 100000 in
set_option maxHeartbeats 4000000 in
theorem c_X4_readName (l : Launch) (P : zw_P) (b1 : Nat) (hb1 : zw_bk b1 = true) (σ : zw_S) : zc_i l P yX4_readName cX4_readName 4 .boolean 6 [.ref (zw_ad P 45), .ref (zw_ad P b1)] σ (m_X4_readName b1 σ) := by
  refine zc_i.of (by decide) (Nat.le_of_ble_eq_true rfl) (fun B r τ E hl hr hm => ?_)
  subst hl
  refine zr_sub (lv' := [(0, .ref (zw_ad P 45)), (1, .ref (zw_ad P b1))]) [0, 1] rfl ?_
  unfold m_X4_readName at hm
  refine zr_aload_n E dX4_readName_0 0 rfl ?_
  refine zr_iconst (v := 0) E dX4_readName_1 (by decide) ?_
  refine zr_bipush (v := 7) E dX4_readName_2 (by decide) ?_
  obtain ⟨r2, s1, os1, hm⟩ := cl_some hm
  refine zr_cVi (st := []) E mw_920 cm_X4_passNumber (c_X4_passNumber B.2.1 P σ 0 7) os1 (rc_45 P) ⟨by decide, by decide⟩ rfl rfl (Nat.le_of_ble_eq_true rfl) dX4_readName_4 ?_
  refine zr_istore_n (lv' := [(2, .int r2), (0, .ref (zw_ad P 45)), (1, .ref (zw_ad P b1))]) E dX4_readName_7 (by decide) rfl ?_
  refine zr_iload_n E dX4_readName_8 0 rfl ?_
  refine zr_if_lt (tgt := 21) E dX4_readName_9 (by decide) (fun c3 => ?_) (fun c3 => ?_)
  · rw [if_pos c3] at hm
    refine zr_iconst (v := 0) E dX4_readName_21 (by decide) ?_
    exact zr_iret E hr (by decide) hm dX4_readName_22
  · rw [if_neg c3] at hm
    refine zr_aload_n E dX4_readName_12 1 rfl ?_
    refine zr_ldcT E rfl 1 (by decide) rfl dX4_readName_13 ?_
    obtain ⟨r5, s4, os4, hm⟩ := cl_some hm
    refine zr_cVi (st := []) E mw_858 cm_X4_passWord (c_X4_passWord B.2.1 P 1 (by decide) s1) os4 (rc_45 P) ⟨by decide, by decide⟩ rfl rfl (Nat.le_of_ble_eq_true rfl) dX4_readName_15 ?_
    refine zr_if_ne (tgt := 23) E dX4_readName_18 (by decide) (fun c6 => ?_) (fun c6 => ?_)
    · rw [if_neg c6] at hm
      refine zr_aload_n E dX4_readName_23 1 rfl ?_
      refine zr_iconst (v := 0) E dX4_readName_24 (by decide) ?_
      refine zr_bipush (v := 99) E dX4_readName_25 (by decide) ?_
      obtain ⟨r8, s7, os7, hm⟩ := cl_some hm
      refine zr_cVi (st := []) E mw_920 cm_X4_passNumber (c_X4_passNumber B.2.1 P s4 0 99) os7 (rc_45 P) ⟨by decide, by decide⟩ rfl rfl (Nat.le_of_ble_eq_true rfl) dX4_readName_27 ?_
      refine zr_istore_n (lv' := [(3, .int r8), (2, .int r2), (0, .ref (zw_ad P 45)), (1, .ref (zw_ad P b1))]) E dX4_readName_30 (by decide) rfl ?_
      refine zr_iload_n E dX4_readName_31 0 rfl ?_
      refine zr_if_ge (tgt := 37) E dX4_readName_32 (by decide) (fun c9 => ?_) (fun c9 => ?_)
      · rw [if_pos c9] at hm
        refine zr_aload_n E dX4_readName_37 3 rfl ?_
        refine fg_X4_116 hb1 E dX4_readName_38 ?_
        refine zr_iload_n E dX4_readName_41 1 rfl ?_
        refine zr_iload_n E dX4_readName_42 0 rfl ?_
        obtain ⟨hs10, s10, es10, hm⟩ := wt_some hm
        refine zr_iast E (ab_1 hb1) hs10 es10 dX4_readName_43 ?_
        refine zr_iconst (v := 1) E dX4_readName_44 (by decide) ?_
        exact zr_iret E hr (by decide) hm dX4_readName_45
      · rw [if_neg c9] at hm
        refine zr_iconst (v := 0) E dX4_readName_35 (by decide) ?_
        exact zr_iret E hr (by decide) hm dX4_readName_36
    · rw [if_pos c6] at hm
      refine zr_iconst (v := 0) E dX4_readName_21 (by decide) ?_
      exact zr_iret E hr (by decide) hm dX4_readName_22
-- X4_readPerson
set_option maxRecDepth 100000 in
set_option maxHeartbeats 4000000 in
theorem t_X4_readPerson_100 {B : zw_B} {P : zw_P} {r : Int32} {τ : zw_S} (b1 : Nat) (hb1 : zw_bk b1 = true) (E : zf B P cX4_readPerson RX4 5 6) (hr : B.2.2.2.2.2.2.2.2.1.sig.returnType = some .boolean) (σ : zw_S) (x2 : Int32) (x3 : Int32) (hm : m_X4_readPerson_100 b1 σ x2 x3 = some (r, τ)) : zw_G B P (zq_i B P r τ) 5 σ 100 [(0, .ref (zw_ad P 45)), (1, .ref (zw_ad P b1)), (2, .int x2), (3, .int x3)] [] := by
  unfold m_X4_readPerson_100 at hm
  refine zr_aload_n E dX4_readPerson_100 0 rfl ?_
  refine zr_iconst (v := 0) E dX4_readPerson_101 (by decide) ?_
  refine zr_bipush (v := 7) E dX4_readPerson_102 (by decide) ?_
  obtain ⟨r2, s1, os1, hm⟩ := cl_some hm
  refine zr_cVi (st := []) E mw_920 cm_X4_passNumber (c_X4_passNumber B.2.1 P σ 0 7) os1 (rc_45 P) ⟨by decide, by decide⟩ rfl rfl (Nat.le_of_ble_eq_true rfl) dX4_readPerson_104 ?_
  refine zr_istore (lv' := [(4, .int r2), (0, .ref (zw_ad P 45)), (1, .ref (zw_ad P b1)), (2, .int x2), (3, .int x3)]) E dX4_readPerson_107 (by decide) rfl ?_
  refine zr_iload E dX4_readPerson_109 0 rfl ?_
  refine zr_if_ge (tgt := 116) E dX4_readPerson_111 (by decide) (fun c3 => ?_) (fun c3 => ?_)
  · rw [if_pos c3] at hm
    refine zr_aload_n E dX4_readPerson_116 2 rfl ?_
    refine zr_iload_n E dX4_readPerson_117 3 rfl ?_
    refine zr_iload_n E dX4_readPerson_118 4 rfl ?_
    refine zr_iload E dX4_readPerson_119 0 rfl ?_
    obtain ⟨r5, s4, os4, hm⟩ := cl_some hm
    refine zr_cVi (st := []) E mw_929 cm_X0_addPerson (c_X0_addPerson B.2.1 P b1 hb1 s1 x2 x3 r2) os4 (rc_bk P hb1) ⟨by decide, by decide⟩ rfl rfl (Nat.le_of_ble_eq_true rfl) dX4_readPerson_121 ?_
    refine zr_pop E dX4_readPerson_124 rfl ?_
    refine zr_iconst (v := 1) E dX4_readPerson_125 (by decide) ?_
    exact zr_iret E hr (by decide) hm dX4_readPerson_126
  · rw [if_neg c3] at hm
    refine zr_iconst (v := 0) E dX4_readPerson_114 (by decide) ?_
    exact zr_iret E hr (by decide) hm dX4_readPerson_115
set_option maxRecDepth 100000 in
set_option maxHeartbeats 4000000 in
theorem t_X4_readPerson_51 {B : zw_B} {P : zw_P} {r : Int32} {τ : zw_S} (b1 : Nat) (hb1 : zw_bk b1 = true) (E : zf B P cX4_readPerson RX4 5 6) (hr : B.2.2.2.2.2.2.2.2.1.sig.returnType = some .boolean) (σ : zw_S) (x2 : Int32) (y0 : Int32) (hm : m_X4_readPerson_51 b1 σ x2 y0 = some (r, τ)) : zw_G B P (zq_i B P r τ) 5 σ 51 [(0, .ref (zw_ad P 45)), (1, .ref (zw_ad P b1)), (2, .int x2)] [.int y0] := by
  unfold m_X4_readPerson_51 at hm
  refine zr_istore_n (lv' := [(3, .int y0), (0, .ref (zw_ad P 45)), (1, .ref (zw_ad P b1)), (2, .int x2)]) E dX4_readPerson_51 (by decide) rfl ?_
  refine zr_iload_n E dX4_readPerson_52 0 rfl ?_
  refine zr_if_ge (tgt := 58) E dX4_readPerson_53 (by decide) (fun c1 => ?_) (fun c1 => ?_)
  · rw [if_pos c1] at hm
    refine zr_iconst (v := (-1)) E dX4_readPerson_58 (by decide) ?_
    refine zr_istore (lv' := [(4, .int ((-1))), (3, .int y0), (0, .ref (zw_ad P 45)), (1, .ref (zw_ad P b1)), (2, .int x2)]) E dX4_readPerson_59 (by decide) rfl ?_
    refine zr_aload_n E dX4_readPerson_61 2 rfl ?_
    refine zr_ldcT E rfl 5 (by decide) rfl dX4_readPerson_62 ?_
    obtain ⟨r3, s2, os2, hm⟩ := cl_some hm
    refine zr_cVi (st := []) E mw_858 cm_X4_passWord (c_X4_passWord B.2.1 P 5 (by decide) σ) os2 (rc_45 P) ⟨by decide, by decide⟩ rfl rfl (Nat.le_of_ble_eq_true rfl) dX4_readPerson_64 ?_
    refine zr_if_eq (tgt := 116) E dX4_readPerson_67 (by decide) (fun c4 => ?_) (fun c4 => ?_)
    · rw [if_pos c4] at hm
      refine zr_aload_n E dX4_readPerson_116 3 rfl ?_
      refine zr_iload_n E dX4_readPerson_117 4 rfl ?_
      refine zr_iload_n E dX4_readPerson_118 1 rfl ?_
      refine zr_iload E dX4_readPerson_119 0 rfl ?_
      obtain ⟨r6, s5, os5, hm⟩ := cl_some hm
      refine zr_cVi (st := []) E mw_929 cm_X0_addPerson (c_X0_addPerson B.2.1 P b1 hb1 s2 x2 y0 (-1)) os5 (rc_bk P hb1) ⟨by decide, by decide⟩ rfl rfl (Nat.le_of_ble_eq_true rfl) dX4_readPerson_121 ?_
      refine zr_pop E dX4_readPerson_124 rfl ?_
      refine zr_iconst (v := 1) E dX4_readPerson_125 (by decide) ?_
      exact zr_iret E hr (by decide) hm dX4_readPerson_126
    · rw [if_neg c4] at hm
      refine zr_aload_n E dX4_readPerson_70 2 rfl ?_
      refine fg_X4_29 E dX4_readPerson_71 ?_
      refine zr_iconst (v := 2) E dX4_readPerson_74 (by decide) ?_
      refine zr_icmp_ne (tgt := 100) E dX4_readPerson_75 (by decide) (fun c7 => ?_) (fun c7 => ?_)
      · rw [if_neg c7] at hm
        refine zr_sub (lv' := [(0, .ref (zw_ad P 45)), (1, .ref (zw_ad P b1)), (2, .int x2), (3, .int y0)]) [2, 3, 4, 1] rfl ?_
        exact t_X4_readPerson_100 b1 hb1 E hr s2 x2 y0 hm
      · rw [if_pos c7] at hm
        refine zr_aload_n E dX4_readPerson_78 2 rfl ?_
        refine fg_X4_45 E dX4_readPerson_79 ?_
        refine zr_bipush (v := 8) E dX4_readPerson_82 (by decide) ?_
        refine zr_icmp_ge (tgt := 100) E dX4_readPerson_84 (by decide) (fun c8 => ?_) (fun c8 => ?_)
        · rw [if_pos c8] at hm
          refine zr_sub (lv' := [(0, .ref (zw_ad P 45)), (1, .ref (zw_ad P b1)), (2, .int x2), (3, .int y0)]) [2, 3, 4, 1] rfl ?_
          exact t_X4_readPerson_100 b1 hb1 E hr s2 x2 y0 hm
        · rw [if_neg c8] at hm
          refine zr_aload_n E dX4_readPerson_87 3 rfl ?_
          refine zr_aload_n E dX4_readPerson_88 2 rfl ?_
          refine fg_X4_45 E dX4_readPerson_89 ?_
          obtain ⟨r10, s9, os9, hm⟩ := cl_some hm
          refine zr_cVi (st := []) E mw_928 cm_X0_bearerOf (c_X0_bearerOf B.2.1 P b1 hb1 s2 (s2 45 5)) os9 (rc_bk P hb1) ⟨by decide, by decide⟩ rfl rfl (Nat.le_of_ble_eq_true rfl) dX4_readPerson_92 ?_
          refine zr_if_lt (tgt := 100) E dX4_readPerson_95 (by decide) (fun c11 => ?_) (fun c11 => ?_)
          · rw [if_pos c11] at hm
            refine zr_sub (lv' := [(0, .ref (zw_ad P 45)), (1, .ref (zw_ad P b1)), (2, .int x2), (3, .int y0)]) [2, 3, 4, 1] rfl ?_
            exact t_X4_readPerson_100 b1 hb1 E hr s9 x2 y0 hm
          · rw [if_neg c11] at hm
            refine zr_iconst (v := 0) E dX4_readPerson_98 (by decide) ?_
            exact zr_iret E hr (by decide) hm dX4_readPerson_99
  · rw [if_neg c1] at hm
    refine zr_iconst (v := 0) E dX4_readPerson_56 (by decide) ?_
    exact zr_iret E hr (by decide) hm dX4_readPerson_57
set_option maxRecDepth 100000 in
set_option maxHeartbeats 4000000 in
theorem t_X4_readPerson_24 {B : zw_B} {P : zw_P} {r : Int32} {τ : zw_S} (b1 : Nat) (hb1 : zw_bk b1 = true) (E : zf B P cX4_readPerson RX4 5 6) (hr : B.2.2.2.2.2.2.2.2.1.sig.returnType = some .boolean) (σ : zw_S) (y0 : Int32) (hm : m_X4_readPerson_24 b1 σ y0 = some (r, τ)) : zw_G B P (zq_i B P r τ) 5 σ 24 [(0, .ref (zw_ad P 45)), (1, .ref (zw_ad P b1))] [.int y0] := by
  unfold m_X4_readPerson_24 at hm
  refine zr_istore_n (lv' := [(2, .int y0), (0, .ref (zw_ad P 45)), (1, .ref (zw_ad P b1))]) E dX4_readPerson_24 (by decide) rfl ?_
  refine zr_iload_n E dX4_readPerson_25 0 rfl ?_
  refine zr_if_ge (tgt := 31) E dX4_readPerson_26 (by decide) (fun c1 => ?_) (fun c1 => ?_)
  · rw [if_pos c1] at hm
    refine zr_aload_n E dX4_readPerson_31 1 rfl ?_
    refine zr_ldcT E rfl 4 (by decide) rfl dX4_readPerson_32 ?_
    obtain ⟨r3, s2, os2, hm⟩ := cl_some hm
    refine zr_cVi (st := []) E mw_858 cm_X4_passWord (c_X4_passWord B.2.1 P 4 (by decide) σ) os2 (rc_45 P) ⟨by decide, by decide⟩ rfl rfl (Nat.le_of_ble_eq_true rfl) dX4_readPerson_34 ?_
    refine zr_if_eq (tgt := 50) E dX4_readPerson_37 (by decide) (fun c4 => ?_) (fun c4 => ?_)
    · rw [if_pos c4] at hm
      refine zr_iconst (v := 0) E dX4_readPerson_50 (by decide) ?_
      refine zr_sub (lv' := [(0, .ref (zw_ad P 45)), (1, .ref (zw_ad P b1)), (2, .int y0)]) [1, 2, 0] rfl ?_
      exact t_X4_readPerson_51 b1 hb1 E hr s2 y0 0 hm
    · rw [if_neg c4] at hm
      refine zr_aload_n E dX4_readPerson_40 1 rfl ?_
      refine zr_iconst (v := 0) E dX4_readPerson_41 (by decide) ?_
      refine zr_bipush (v := 39) E dX4_readPerson_42 (by decide) ?_
      obtain ⟨r6, s5, os5, hm⟩ := cl_some hm
      refine zr_cVi (st := []) E mw_920 cm_X4_passNumber (c_X4_passNumber B.2.1 P s2 0 39) os5 (rc_45 P) ⟨by decide, by decide⟩ rfl rfl (Nat.le_of_ble_eq_true rfl) dX4_readPerson_44 ?_
      refine zr_goto (tgt := 51) E dX4_readPerson_47 (by decide) ?_
      refine zr_sub (lv' := [(0, .ref (zw_ad P 45)), (1, .ref (zw_ad P b1)), (2, .int y0)]) [1, 2, 0] rfl ?_
      exact t_X4_readPerson_51 b1 hb1 E hr s5 y0 r6 hm
  · rw [if_neg c1] at hm
    refine zr_iconst (v := 0) E dX4_readPerson_29 (by decide) ?_
    exact zr_iret E hr (by decide) hm dX4_readPerson_30
set_option maxRecDepth 100000 in
set_option maxHeartbeats 4000000 in
theorem c_X4_readPerson (l : Launch) (P : zw_P) (b1 : Nat) (hb1 : zw_bk b1 = true) (σ : zw_S) : zc_i l P yX4_readPerson cX4_readPerson 5 .boolean 6 [.ref (zw_ad P 45), .ref (zw_ad P b1)] σ (m_X4_readPerson b1 σ) := by
  refine zc_i.of (by decide) (Nat.le_of_ble_eq_true rfl) (fun B r τ E hl hr hm => ?_)
  subst hl
  refine zr_sub (lv' := [(0, .ref (zw_ad P 45)), (1, .ref (zw_ad P b1))]) [0, 1] rfl ?_
  unfold m_X4_readPerson at hm
  refine zr_aload_n E dX4_readPerson_0 0 rfl ?_
  obtain ⟨s1, os1, hm⟩ := cv_some hm
  refine zr_cVv (st := []) E mw_834 cm_X4_advance (c_X4_advance B.2.1 P σ) os1 (rc_45 P) ⟨by decide, by decide⟩ rfl rfl (Nat.le_of_ble_eq_true rfl) dX4_readPerson_1 ?_
  refine zr_aload_n E dX4_readPerson_4 0 rfl ?_
  refine zr_ldcT E rfl 3 (by decide) rfl dX4_readPerson_5 ?_
  obtain ⟨r3, s2, os2, hm⟩ := cl_some hm
  refine zr_cVi (st := []) E mw_858 cm_X4_passWord (c_X4_passWord B.2.1 P 3 (by decide) s1) os2 (rc_45 P) ⟨by decide, by decide⟩ rfl rfl (Nat.le_of_ble_eq_true rfl) dX4_readPerson_7 ?_
  refine zr_if_eq (tgt := 23) E dX4_readPerson_10 (by decide) (fun c4 => ?_) (fun c4 => ?_)
  · rw [if_pos c4] at hm
    refine zr_iconst (v := 3) E dX4_readPerson_23 (by decide) ?_
    refine zr_sub (lv' := [(0, .ref (zw_ad P 45)), (1, .ref (zw_ad P b1))]) [0, 1] rfl ?_
    exact t_X4_readPerson_24 b1 hb1 E hr s2 3 hm
  · rw [if_neg c4] at hm
    refine zr_aload_n E dX4_readPerson_13 0 rfl ?_
    refine zr_iconst (v := 1) E dX4_readPerson_14 (by decide) ?_
    refine zr_bipush (v := 9) E dX4_readPerson_15 (by decide) ?_
    obtain ⟨r6, s5, os5, hm⟩ := cl_some hm
    refine zr_cVi (st := []) E mw_920 cm_X4_passNumber (c_X4_passNumber B.2.1 P s2 1 9) os5 (rc_45 P) ⟨by decide, by decide⟩ rfl rfl (Nat.le_of_ble_eq_true rfl) dX4_readPerson_17 ?_
    refine zr_goto (tgt := 24) E dX4_readPerson_20 (by decide) ?_
    refine zr_sub (lv' := [(0, .ref (zw_ad P 45)), (1, .ref (zw_ad P b1))]) [0, 1] rfl ?_
    exact t_X4_readPerson_24 b1 hb1 E hr s5 r6 hm
-- X4_readTask
set_option maxRecDepth 100000 in
set_option maxHeartbeats 4000000 in
theorem t_X4_readTask_76 {B : zw_B} {P : zw_P} {r : Int32} {τ : zw_S} (b1 : Nat) (hb1 : zw_bk b1 = true) (E : zf B P cX4_readTask RX4 6 6) (hr : B.2.2.2.2.2.2.2.2.1.sig.returnType = some .boolean) (σ : zw_S) (x2 : Int32) (x3 : Int32) (x4 : Int32) (x5 : Int32) (hm : m_X4_readTask_76 b1 σ x2 x3 x4 x5 = some (r, τ)) : zw_G B P (zq_i B P r τ) 6 σ 76 [(1, .ref (zw_ad P b1)), (2, .int x2), (3, .int x3), (4, .int x4), (5, .int x5)] [] := by
  unfold m_X4_readTask_76 at hm
  refine zr_aload_n E dX4_readTask_76 0 rfl ?_
  refine zr_iload_n E dX4_readTask_77 1 rfl ?_
  refine zr_iload_n E dX4_readTask_78 2 rfl ?_
  refine zr_iload E dX4_readTask_79 3 rfl ?_
  refine zr_iload E dX4_readTask_81 4 rfl ?_
  obtain ⟨r2, s1, os1, hm⟩ := cl_some hm
  refine zr_cVi (st := []) E mw_938 cm_X0_addTask (c_X0_addTask B.2.1 P b1 hb1 σ x2 x3 x4 x5) os1 (rc_bk P hb1) ⟨by decide, by decide⟩ rfl rfl (Nat.le_of_ble_eq_true rfl) dX4_readTask_83 ?_
  refine zr_pop E dX4_readTask_86 rfl ?_
  refine zr_iconst (v := 1) E dX4_readTask_87 (by decide) ?_
  exact zr_iret E hr (by decide) hm dX4_readTask_88
set_option maxRecDepth 100000 in
set_option maxHeartbeats 4000000 in
theorem c_X4_readTask (l : Launch) (P : zw_P) (b1 : Nat) (hb1 : zw_bk b1 = true) (σ : zw_S) (x2 : Int32) : zc_i l P yX4_readTask cX4_readTask 6 .boolean 6 [.ref (zw_ad P 45), .ref (zw_ad P b1), .int x2] σ (m_X4_readTask b1 σ x2) := by
  refine zc_i.of (by decide) (Nat.le_of_ble_eq_true rfl) (fun B r τ E hl hr hm => ?_)
  subst hl
  refine zr_sub (lv' := [(0, .ref (zw_ad P 45)), (1, .ref (zw_ad P b1)), (2, .int x2)]) [0, 1, 2] rfl ?_
  unfold m_X4_readTask at hm
  refine zr_aload_n E dX4_readTask_0 0 rfl ?_
  obtain ⟨s1, os1, hm⟩ := cv_some hm
  refine zr_cVv (st := []) E mw_834 cm_X4_advance (c_X4_advance B.2.1 P σ) os1 (rc_45 P) ⟨by decide, by decide⟩ rfl rfl (Nat.le_of_ble_eq_true rfl) dX4_readTask_1 ?_
  refine zr_aload_n E dX4_readTask_4 0 rfl ?_
  refine zr_iconst (v := 0) E dX4_readTask_5 (by decide) ?_
  refine zr_bipush (v := 7) E dX4_readTask_6 (by decide) ?_
  obtain ⟨r3, s2, os2, hm⟩ := cl_some hm
  refine zr_cVi (st := []) E mw_920 cm_X4_passNumber (c_X4_passNumber B.2.1 P s1 0 7) os2 (rc_45 P) ⟨by decide, by decide⟩ rfl rfl (Nat.le_of_ble_eq_true rfl) dX4_readTask_8 ?_
  refine zr_istore_n (lv' := [(3, .int r3), (0, .ref (zw_ad P 45)), (1, .ref (zw_ad P b1)), (2, .int x2)]) E dX4_readTask_11 (by decide) rfl ?_
  refine zr_iload_n E dX4_readTask_12 0 rfl ?_
  refine zr_if_lt (tgt := 25) E dX4_readTask_13 (by decide) (fun c4 => ?_) (fun c4 => ?_)
  · rw [if_pos c4] at hm
    refine zr_iconst (v := 0) E dX4_readTask_25 (by decide) ?_
    exact zr_iret E hr (by decide) hm dX4_readTask_26
  · rw [if_neg c4] at hm
    refine zr_aload_n E dX4_readTask_16 1 rfl ?_
    refine zr_ldcT E rfl 13 (by decide) rfl dX4_readTask_17 ?_
    obtain ⟨r6, s5, os5, hm⟩ := cl_some hm
    refine zr_cVi (st := []) E mw_858 cm_X4_passWord (c_X4_passWord B.2.1 P 13 (by decide) s2) os5 (rc_45 P) ⟨by decide, by decide⟩ rfl rfl (Nat.le_of_ble_eq_true rfl) dX4_readTask_19 ?_
    refine zr_if_ne (tgt := 27) E dX4_readTask_22 (by decide) (fun c7 => ?_) (fun c7 => ?_)
    · rw [if_neg c7] at hm
      refine zr_aload_n E dX4_readTask_27 1 rfl ?_
      refine zr_iconst (v := 1) E dX4_readTask_28 (by decide) ?_
      refine zr_sipush (v := 999) E dX4_readTask_29 (by decide) ?_
      obtain ⟨r9, s8, os8, hm⟩ := cl_some hm
      refine zr_cVi (st := []) E mw_920 cm_X4_passNumber (c_X4_passNumber B.2.1 P s5 1 999) os8 (rc_45 P) ⟨by decide, by decide⟩ rfl rfl (Nat.le_of_ble_eq_true rfl) dX4_readTask_32 ?_
      refine zr_istore (lv' := [(4, .int r9), (3, .int r3), (0, .ref (zw_ad P 45)), (1, .ref (zw_ad P b1)), (2, .int x2)]) E dX4_readTask_35 (by decide) rfl ?_
      refine zr_iload E dX4_readTask_37 0 rfl ?_
      refine zr_if_ge (tgt := 44) E dX4_readTask_39 (by decide) (fun c10 => ?_) (fun c10 => ?_)
      · rw [if_pos c10] at hm
        refine zr_iconst (v := (-1)) E dX4_readTask_44 (by decide) ?_
        refine zr_istore (lv' := [(5, .int ((-1))), (4, .int r9), (3, .int r3), (0, .ref (zw_ad P 45)), (1, .ref (zw_ad P b1)), (2, .int x2)]) E dX4_readTask_45 (by decide) rfl ?_
        refine zr_aload_n E dX4_readTask_47 3 rfl ?_
        refine zr_ldcT E rfl 14 (by decide) rfl dX4_readTask_48 ?_
        obtain ⟨r12, s11, os11, hm⟩ := cl_some hm
        refine zr_cVi (st := []) E mw_858 cm_X4_passWord (c_X4_passWord B.2.1 P 14 (by decide) s8) os11 (rc_45 P) ⟨by decide, by decide⟩ rfl rfl (Nat.le_of_ble_eq_true rfl) dX4_readTask_50 ?_
        refine zr_if_eq (tgt := 76) E dX4_readTask_53 (by decide) (fun c13 => ?_) (fun c13 => ?_)
        · rw [if_pos c13] at hm
          refine zr_sub (lv' := [(1, .ref (zw_ad P b1)), (2, .int x2), (3, .int r3), (4, .int r9), (5, .int ((-1)))]) [4, 5, 2, 1, 0] rfl ?_
          exact t_X4_readTask_76 b1 hb1 E hr s11 x2 r3 r9 (-1) hm
        · rw [if_neg c13] at hm
          refine zr_aload_n E dX4_readTask_56 3 rfl ?_
          refine zr_iconst (v := 0) E dX4_readTask_57 (by decide) ?_
          refine zr_aload_n E dX4_readTask_58 4 rfl ?_
          refine fg_X4_88 hb1 E dX4_readTask_59 ?_
          refine zr_iconst (v := 1) E dX4_readTask_62 (by decide) ?_
          refine zr_isub E dX4_readTask_63 ?_
          obtain ⟨r15, s14, os14, hm⟩ := cl_some hm
          refine zr_cVi (st := []) E mw_920 cm_X4_passNumber (c_X4_passNumber B.2.1 P s11 0 ((s11 b1 2) - 1)) os14 (rc_45 P) ⟨by decide, by decide⟩ rfl rfl (Nat.le_of_ble_eq_true rfl) dX4_readTask_64 ?_
          refine zr_istore (lv' := [(5, .int r15), (4, .int r9), (3, .int r3), (0, .ref (zw_ad P 45)), (1, .ref (zw_ad P b1)), (2, .int x2)]) E dX4_readTask_67 (by decide) rfl ?_
          refine zr_iload E dX4_readTask_69 0 rfl ?_
          refine zr_if_ge (tgt := 76) E dX4_readTask_71 (by decide) (fun c16 => ?_) (fun c16 => ?_)
          · rw [if_pos c16] at hm
            refine zr_sub (lv' := [(1, .ref (zw_ad P b1)), (2, .int x2), (3, .int r3), (4, .int r9), (5, .int r15)]) [4, 5, 2, 1, 0] rfl ?_
            exact t_X4_readTask_76 b1 hb1 E hr s14 x2 r3 r9 r15 hm
          · rw [if_neg c16] at hm
            refine zr_iconst (v := 0) E dX4_readTask_74 (by decide) ?_
            exact zr_iret E hr (by decide) hm dX4_readTask_75
      · rw [if_neg c10] at hm
        refine zr_iconst (v := 0) E dX4_readTask_42 (by decide) ?_
        exact zr_iret E hr (by decide) hm dX4_readTask_43
    · rw [if_pos c7] at hm
      refine zr_iconst (v := 0) E dX4_readTask_25 (by decide) ?_
      exact zr_iret E hr (by decide) hm dX4_readTask_26
-- X4_readItem
set_option maxRecDepth 100000 in
set_option maxHeartbeats 4000000 in
theorem c_X4_readItem (l : Launch) (P : zw_P) (b1 : Nat) (hb1 : zw_bk b1 = true) (σ : zw_S) : zc_i l P yX4_readItem cX4_readItem 3 .boolean 7 [.ref (zw_ad P 45), .ref (zw_ad P b1)] σ (m_X4_readItem b1 σ) := by
  refine zc_i.of (by decide) (Nat.le_of_ble_eq_true rfl) (fun B r τ E hl hr hm => ?_)
  subst hl
  refine zr_sub (lv' := [(0, .ref (zw_ad P 45)), (1, .ref (zw_ad P b1))]) [0, 1] rfl ?_
  unfold m_X4_readItem at hm
  refine zr_aload_n E dX4_readItem_0 0 rfl ?_
  refine zr_ldcT E rfl 0 (by decide) rfl dX4_readItem_1 ?_
  obtain ⟨r2, s1, os1, hm⟩ := cl_some hm
  refine zr_cVi (st := []) E mw_858 cm_X4_passWord (c_X4_passWord B.2.1 P 0 (by decide) σ) os1 (rc_45 P) ⟨by decide, by decide⟩ rfl rfl (Nat.le_of_ble_eq_true rfl) dX4_readItem_3 ?_
  refine zr_if_eq (tgt := 15) E dX4_readItem_6 (by decide) (fun c3 => ?_) (fun c3 => ?_)
  · rw [if_pos c3] at hm
    refine zr_aload_n E dX4_readItem_15 0 rfl ?_
    refine zr_ldcT E rfl 2 (by decide) rfl dX4_readItem_16 ?_
    obtain ⟨r5, s4, os4, hm⟩ := cl_some hm
    refine zr_cVi (st := []) E mw_862 cm_X4_isWord (c_X4_isWord B.2.1 P 2 (by decide) s1) os4 (rc_45 P) ⟨by decide, by decide⟩ rfl rfl (Nat.le_of_ble_eq_true rfl) dX4_readItem_18 ?_
    refine zr_if_eq (tgt := 47) E dX4_readItem_21 (by decide) (fun c6 => ?_) (fun c6 => ?_)
    · rw [if_pos c6] at hm
      refine zr_aload_n E dX4_readItem_47 0 rfl ?_
      obtain ⟨r8, s7, os7, hm⟩ := cl_some hm
      refine zr_cVi (st := []) E mw_930 cm_X4_kindHere (c_X4_kindHere B.2.1 P s4) os7 (rc_45 P) ⟨by decide, by decide⟩ rfl rfl (Nat.le_of_ble_eq_true rfl) dX4_readItem_48 ?_
      refine zr_istore_n (lv' := [(2, .int r8), (0, .ref (zw_ad P 45)), (1, .ref (zw_ad P b1))]) E dX4_readItem_51 (by decide) rfl ?_
      refine zr_iload_n E dX4_readItem_52 0 rfl ?_
      refine zr_if_lt (tgt := 78) E dX4_readItem_53 (by decide) (fun c9 => ?_) (fun c9 => ?_)
      · rw [if_pos c9] at hm
        refine zr_iconst (v := 0) E dX4_readItem_78 (by decide) ?_
        exact zr_iret E hr (by decide) hm dX4_readItem_79
      · rw [if_neg c9] at hm
        refine zr_aload_n E dX4_readItem_56 2 rfl ?_
        refine fg_X4_88 hb1 E dX4_readItem_57 ?_
        refine zr_bipush (v := 20) E dX4_readItem_60 (by decide) ?_
        refine zr_icmp_ge (tgt := 78) E dX4_readItem_62 (by decide) (fun c10 => ?_) (fun c10 => ?_)
        · rw [if_pos c10] at hm
          refine zr_iconst (v := 0) E dX4_readItem_78 (by decide) ?_
          exact zr_iret E hr (by decide) hm dX4_readItem_79
        · rw [if_neg c10] at hm
          refine zr_aload_n E dX4_readItem_65 1 rfl ?_
          refine zr_aload_n E dX4_readItem_66 2 rfl ?_
          refine zr_iload_n E dX4_readItem_67 0 rfl ?_
          obtain ⟨r12, s11, os11, hm⟩ := cl_some hm
          refine zr_cVi (st := []) E mw_934 cm_X4_readTask (c_X4_readTask B.2.1 P b1 hb1 s7 r8) os11 (rc_45 P) ⟨by decide, by decide⟩ rfl rfl (Nat.le_of_ble_eq_true rfl) dX4_readItem_68 ?_
          refine zr_if_eq (tgt := 78) E dX4_readItem_71 (by decide) (fun c13 => ?_) (fun c13 => ?_)
          · rw [if_pos c13] at hm
            refine zr_iconst (v := 0) E dX4_readItem_78 (by decide) ?_
            exact zr_iret E hr (by decide) hm dX4_readItem_79
          · rw [if_neg c13] at hm
            refine zr_iconst (v := 1) E dX4_readItem_74 (by decide) ?_
            refine zr_goto (tgt := 79) E dX4_readItem_75 (by decide) ?_
            exact zr_iret E hr (by decide) hm dX4_readItem_79
    · rw [if_neg c6] at hm
      refine zr_aload_n E dX4_readItem_24 1 rfl ?_
      refine fg_X4_77 hb1 E dX4_readItem_25 ?_
      refine zr_bipush (v := 8) E dX4_readItem_28 (by decide) ?_
      refine zr_icmp_ge (tgt := 45) E dX4_readItem_30 (by decide) (fun c14 => ?_) (fun c14 => ?_)
      · rw [if_pos c14] at hm
        refine zr_iconst (v := 0) E dX4_readItem_45 (by decide) ?_
        exact zr_iret E hr (by decide) hm dX4_readItem_46
      · rw [if_neg c14] at hm
        refine zr_aload_n E dX4_readItem_33 0 rfl ?_
        refine zr_aload_n E dX4_readItem_34 1 rfl ?_
        obtain ⟨r16, s15, os15, hm⟩ := cl_some hm
        refine zr_cVi (st := []) E mw_924 cm_X4_readPerson (c_X4_readPerson B.2.1 P b1 hb1 s4) os15 (rc_45 P) ⟨by decide, by decide⟩ rfl rfl (Nat.le_of_ble_eq_true rfl) dX4_readItem_35 ?_
        refine zr_if_eq (tgt := 45) E dX4_readItem_38 (by decide) (fun c17 => ?_) (fun c17 => ?_)
        · rw [if_pos c17] at hm
          refine zr_iconst (v := 0) E dX4_readItem_45 (by decide) ?_
          exact zr_iret E hr (by decide) hm dX4_readItem_46
        · rw [if_neg c17] at hm
          refine zr_iconst (v := 1) E dX4_readItem_41 (by decide) ?_
          refine zr_goto (tgt := 46) E dX4_readItem_42 (by decide) ?_
          exact zr_iret E hr (by decide) hm dX4_readItem_46
  · rw [if_neg c3] at hm
    refine zr_aload_n E dX4_readItem_9 0 rfl ?_
    refine zr_aload_n E dX4_readItem_10 1 rfl ?_
    obtain ⟨r19, s18, os18, hm⟩ := cl_some hm
    refine zr_cVi (st := []) E mw_915 cm_X4_readName (c_X4_readName B.2.1 P b1 hb1 s1) os18 (rc_45 P) ⟨by decide, by decide⟩ rfl rfl (Nat.le_of_ble_eq_true rfl) dX4_readItem_11 ?_
    obtain ⟨hz20, hm⟩ := tt_some hm
    exact zr_iret E hr (zz_nar (zz_some hz20)) hm dX4_readItem_14
-- X4_readInto
set_option maxRecDepth 100000 in
set_option maxHeartbeats 4000000 in
theorem t_X4_readInto_54 {B : zw_B} {P : zw_P} {r : Int32} {τ : zw_S} (b1 : Nat) (hb1 : zw_bk b1 = true) (E : zf B P cX4_readInto RX4 3 8) (hr : B.2.2.2.2.2.2.2.2.1.sig.returnType = some .int) (σ : zw_S) (hm : m_X4_readInto_54 b1 σ = some (r, τ)) : zw_G B P (zq_i B P r τ) 3 σ 54 [(0, .ref (zw_ad P 45))] [] := by
  unfold m_X4_readInto_54 at hm
  refine zr_iconst (v := (-1)) E dX4_readInto_54 (by decide) ?_
  refine zr_aload_n E dX4_readInto_55 0 rfl ?_
  refine fg_X4_32 E dX4_readInto_56 ?_
  refine zr_isub E dX4_readInto_59 ?_
  exact zr_iret E hr rfl hm dX4_readInto_60
set_option maxRecDepth 100000 in
set_option maxHeartbeats 4000000 in
theorem t_X4_readInto_45 {B : zw_B} {P : zw_P} {r : Int32} {τ : zw_S} (b1 : Nat) (hb1 : zw_bk b1 = true) (E : zf B P cX4_readInto RX4 3 8) (hr : B.2.2.2.2.2.2.2.2.1.sig.returnType = some .int) (σ : zw_S) (hm : m_X4_readInto_45 b1 σ = some (r, τ)) : zw_G B P (zq_i B P r τ) 3 σ 45 [(0, .ref (zw_ad P 45))] [] := by
  unfold m_X4_readInto_45 at hm
  refine zr_goto (tgt := 54) E dX4_readInto_45 (by decide) ?_
  refine zr_sub (lv' := [(0, .ref (zw_ad P 45))]) [0] rfl ?_
  exact t_X4_readInto_54 b1 hb1 E hr σ hm
set_option maxRecDepth 100000 in
set_option maxHeartbeats 4000000 in
theorem t_X4_readInto_7 {B : zw_B} {P : zw_P} {r : Int32} {τ : zw_S} (b1 : Nat) (hb1 : zw_bk b1 = true) (E : zf B P cX4_readInto RX4 3 8) (hr : B.2.2.2.2.2.2.2.2.1.sig.returnType = some .int) : ∀ (n : Nat) (σ : zw_S) (x2 : Int32), m_X4_readInto_7 b1 n σ x2 = some (r, τ) → zw_G B P (zq_i B P r τ) 3 σ 7 [(0, .ref (zw_ad P 45)), (1, .ref (zw_ad P b1)), (2, .int x2)] [] := by
  intro n
  induction n with
  | zero => intro σ x2 hm; cases hm
  | succ n ih =>
    intro σ x2 hm
    unfold m_X4_readInto_7 at hm
    refine zr_iload_n E dX4_readInto_7 2 rfl ?_
    refine zr_bipush (v := 120) E dX4_readInto_8 (by decide) ?_
    refine zr_icmp_gt (tgt := 54) E dX4_readInto_10 (by decide) (fun c1 => ?_) (fun c1 => ?_)
    · rw [if_pos c1] at hm
      refine zr_sub (lv' := [(0, .ref (zw_ad P 45))]) [0] rfl ?_
      exact t_X4_readInto_54 b1 hb1 E hr σ hm
    · rw [if_neg c1] at hm
      refine zr_aload_n E dX4_readInto_13 0 rfl ?_
      obtain ⟨s2, os2, hm⟩ := cv_some hm
      refine zr_cVv (st := []) E mw_834 cm_X4_advance (c_X4_advance B.2.1 P σ) os2 (rc_45 P) ⟨by decide, by decide⟩ rfl rfl (Nat.le_of_ble_eq_true rfl) dX4_readInto_14 ?_
      refine zr_aload_n E dX4_readInto_17 0 rfl ?_
      refine zr_aload_n E dX4_readInto_18 1 rfl ?_
      obtain ⟨r4, s3, os3, hm⟩ := cl_some hm
      refine zr_cVi (st := []) E mw_852 cm_X4_readItem (c_X4_readItem B.2.1 P b1 hb1 s2) os3 (rc_45 P) ⟨by decide, by decide⟩ rfl rfl (Nat.le_of_ble_eq_true rfl) dX4_readInto_19 ?_
      refine zr_if_ne (tgt := 28) E dX4_readInto_22 (by decide) (fun c5 => ?_) (fun c5 => ?_)
      · rw [if_neg c5] at hm
        refine zr_aload_n E dX4_readInto_28 0 rfl ?_
        refine fg_X4_29 E dX4_readInto_29 ?_
        refine zr_if_ne (tgt := 37) E dX4_readInto_32 (by decide) (fun c6 => ?_) (fun c6 => ?_)
        · rw [if_neg c6] at hm
          refine zr_aload_n E dX4_readInto_37 0 rfl ?_
          refine fg_X4_29 E dX4_readInto_38 ?_
          refine zr_iconst (v := 3) E dX4_readInto_41 (by decide) ?_
          refine zr_icmp_eq (tgt := 48) E dX4_readInto_42 (by decide) (fun c7 => ?_) (fun c7 => ?_)
          · rw [if_pos c7] at hm
            obtain ⟨v8, ev8, hm⟩ := nm_some hm
            refine zr_iinc (j := 2) (lv' := [(2, .int v8), (0, .ref (zw_ad P 45)), (1, .ref (zw_ad P b1))]) E dX4_readInto_48 rfl ev8 (by decide) rfl ?_
            refine zr_goto (tgt := 7) E dX4_readInto_51 (by decide) ?_
            refine zr_sub (lv' := [(0, .ref (zw_ad P 45)), (1, .ref (zw_ad P b1)), (2, .int v8)]) [1, 2, 0] rfl ?_
            exact ih s3 v8 hm
          · rw [if_neg c7] at hm
            refine zr_sub (lv' := [(0, .ref (zw_ad P 45))]) [0] rfl ?_
            exact t_X4_readInto_45 b1 hb1 E hr s3 hm
        · rw [if_pos c6] at hm
          refine zr_iload_n E dX4_readInto_35 2 rfl ?_
          exact zr_iret E hr rfl hm dX4_readInto_36
      · rw [if_pos c5] at hm
        refine zr_goto (tgt := 54) E dX4_readInto_25 (by decide) ?_
        refine zr_sub (lv' := [(0, .ref (zw_ad P 45))]) [0] rfl ?_
        exact t_X4_readInto_54 b1 hb1 E hr s3 hm
set_option maxRecDepth 100000 in
set_option maxHeartbeats 4000000 in
theorem c_X4_readInto (l : Launch) (P : zw_P) (b1 : Nat) (hb1 : zw_bk b1 = true) (σ : zw_S) : zc_i l P yX4_readInto cX4_readInto 3 .int 8 [.ref (zw_ad P 45), .ref (zw_ad P b1)] σ (m_X4_readInto b1 σ) := by
  refine zc_i.of (by decide) (Nat.le_of_ble_eq_true rfl) (fun B r τ E hl hr hm => ?_)
  subst hl
  refine zr_sub (lv' := [(0, .ref (zw_ad P 45)), (1, .ref (zw_ad P b1))]) [0, 1] rfl ?_
  unfold m_X4_readInto at hm
  refine zr_aload_n E dX4_readInto_0 0 rfl ?_
  refine zr_iconst (v := 0) E dX4_readInto_1 (by decide) ?_
  obtain ⟨s1, es1, hm⟩ := nm_some hm
  refine fp_X4_19 E es1 dX4_readInto_2 ?_
  refine zr_iconst (v := 1) E dX4_readInto_5 (by decide) ?_
  refine zr_istore_n (lv' := [(2, .int 1), (0, .ref (zw_ad P 45)), (1, .ref (zw_ad P b1))]) E dX4_readInto_6 (by decide) rfl ?_
  refine zr_sub (lv' := [(0, .ref (zw_ad P 45)), (1, .ref (zw_ad P b1)), (2, .int 1)]) [1, 2, 0] rfl ?_
  exact t_X4_readInto_7 b1 hb1 E hr 200 s1 1 hm
