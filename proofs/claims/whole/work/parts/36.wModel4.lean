-- X7_wrongWay
set_option maxRecDepth 100000 in
set_option maxHeartbeats 4000000 in
theorem c_X7_wrongWay (l : Launch) (P : zw_P) (σ : zw_S) (x1 : Int32) : zc_i l P yX7_wrongWay cX7_wrongWay 2 .int 3 [.ref (zw_ad P 57), .int x1] σ (m_X7_wrongWay σ x1) := by
  refine zc_i.of (by decide) (Nat.le_of_ble_eq_true rfl) (fun B r τ E hl hr hm => ?_)
  subst hl
  refine zr_sub (lv' := [(0, .ref (zw_ad P 57)), (1, .int x1)]) [0, 1] rfl ?_
  unfold m_X7_wrongWay at hm
  refine zr_iload_n E dX7_wrongWay_0 1 rfl ?_
  refine zr_i2l E dX7_wrongWay_1 ?_
  refine zr_lconst (v := 1) E dX7_wrongWay_2 (by decide) ?_
  refine zr_ldc2 E mw_730 dX7_wrongWay_3 ?_
  obtain ⟨r2, s1, os1, hm⟩ := cl_some hm
  refine zr_cSi (st := []) E mw_120 cm_X7_in (c_X7_in B.2.1 P σ x1.toInt64 1 40) os1 ⟨by decide, by decide⟩ rfl rfl (Nat.le_of_ble_eq_true rfl) dX7_wrongWay_6 ?_
  refine zr_if_ne (tgt := 17) E dX7_wrongWay_9 (by decide) (fun c3 => ?_) (fun c3 => ?_)
  · rw [if_neg c3] at hm
    refine zr_aload_n E dX7_wrongWay_17 0 rfl ?_
    refine zr_iload_n E dX7_wrongWay_18 1 rfl ?_
    obtain ⟨r5, s4, os4, hm⟩ := cl_some hm
    refine zr_cVi (st := []) E mw_499 cm_X7_isFarOn (c_X7_isFarOn B.2.1 P s1 x1) os4 (rc_57 P) ⟨by decide, by decide⟩ rfl rfl (Nat.le_of_ble_eq_true rfl) dX7_wrongWay_19 ?_
    refine zr_if_eq (tgt := 30) E dX7_wrongWay_22 (by decide) (fun c6 => ?_) (fun c6 => ?_)
    · rw [if_pos c6] at hm
      refine zr_aload_n E dX7_wrongWay_30 0 rfl ?_
      obtain ⟨r8, s7, os7, hm⟩ := cl_some hm
      refine zr_cVi (st := []) E mw_732 cm_X7_waiting (c_X7_waiting B.2.1 P s4) os7 (rc_57 P) ⟨by decide, by decide⟩ rfl rfl (Nat.le_of_ble_eq_true rfl) dX7_wrongWay_31 ?_
      refine zr_iconst (v := 4) E dX7_wrongWay_34 (by decide) ?_
      refine zr_icmp_le (tgt := 43) E dX7_wrongWay_35 (by decide) (fun c9 => ?_) (fun c9 => ?_)
      · rw [if_pos c9] at hm
        refine zr_iconst (v := 0) E dX7_wrongWay_43 (by decide) ?_
        exact zr_iret E hr rfl hm dX7_wrongWay_44
      · rw [if_neg c9] at hm
        refine zr_ldc E mw_731 dX7_wrongWay_38 ?_
        refine zr_goto (tgt := 44) E dX7_wrongWay_40 (by decide) ?_
        exact zr_iret E hr rfl hm dX7_wrongWay_44
    · rw [if_neg c6] at hm
      refine zr_ldc E mw_394 dX7_wrongWay_25 ?_
      refine zr_goto (tgt := 44) E dX7_wrongWay_27 (by decide) ?_
      exact zr_iret E hr rfl hm dX7_wrongWay_44
  · rw [if_pos c3] at hm
    refine zr_ldc E mw_115 dX7_wrongWay_12 ?_
    refine zr_goto (tgt := 44) E dX7_wrongWay_14 (by decide) ?_
    exact zr_iret E hr rfl hm dX7_wrongWay_44
-- X7_most
set_option maxRecDepth 100000 in
set_option maxHeartbeats 4000000 in
theorem c_X7_most (l : Launch) (P : zw_P) (σ : zw_S) (x1 : Int32) : zc_i l P yX7_most cX7_most 3 .int 9 [.ref (zw_ad P 57), .int x1] σ (m_X7_most σ x1) := by
  refine zc_i.of (by decide) (Nat.le_of_ble_eq_true rfl) (fun B r τ E hl hr hm => ?_)
  subst hl
  refine zr_sub (lv' := [(0, .ref (zw_ad P 57)), (1, .int x1)]) [0, 1] rfl ?_
  unfold m_X7_most at hm
  refine zr_aload_n E dX7_most_0 0 rfl ?_
  refine zr_iload_n E dX7_most_1 1 rfl ?_
  obtain ⟨r2, s1, os1, hm⟩ := cl_some hm
  refine zr_cVi (st := []) E mw_726 cm_X7_wrongWay (c_X7_wrongWay B.2.1 P σ x1) os1 (rc_57 P) ⟨by decide, by decide⟩ rfl rfl (Nat.le_of_ble_eq_true rfl) dX7_most_2 ?_
  refine zr_istore_n (lv' := [(2, .int r2), (0, .ref (zw_ad P 57)), (1, .int x1)]) E dX7_most_5 (by decide) rfl ?_
  refine zr_iload_n E dX7_most_6 0 rfl ?_
  refine zr_if_ge (tgt := 18) E dX7_most_7 (by decide) (fun c3 => ?_) (fun c3 => ?_)
  · rw [if_pos c3] at hm
    refine zr_aload_n E dX7_most_18 1 rfl ?_
    refine zr_iload_n E dX7_most_19 2 rfl ?_
    obtain ⟨r5, s4, os4, hm⟩ := cl_some hm
    refine zr_cVi (st := []) E mw_740 cm_X7_bestWay (c_X7_bestWay B.2.1 P s1 x1) os4 (rc_57 P) ⟨by decide, by decide⟩ rfl rfl (Nat.le_of_ble_eq_true rfl) dX7_most_20 ?_
    exact zr_iret E hr rfl hm dX7_most_23
  · rw [if_neg c3] at hm
    refine zr_aload_n E dX7_most_10 1 rfl ?_
    refine zr_iload_n E dX7_most_11 0 rfl ?_
    obtain ⟨r7, s6, os6, hm⟩ := cl_some hm
    refine zr_cVi (st := []) E mw_127 cm_X7_finds (c_X7_finds B.2.1 P s1 r2) os6 (rc_57 P) ⟨by decide, by decide⟩ rfl rfl (Nat.le_of_ble_eq_true rfl) dX7_most_12 ?_
    refine zr_goto (tgt := 23) E dX7_most_15 (by decide) ?_
    exact zr_iret E hr rfl hm dX7_most_23
-- X7_give
set_option maxRecDepth 100000 in
set_option maxHeartbeats 4000000 in
theorem t_X7_give_27 {B : zw_B} {P : zw_P} {r : Int32} {τ : zw_S} (E : zf B P cX7_give RX7 5 9) (hr : B.2.2.2.2.2.2.2.2.1.sig.returnType = some .int) : ∀ (n : Nat) (σ : zw_S) (x3 : Int32) (x4 : Int32), m_X7_give_27 n σ x3 x4 = some (r, τ) → zw_G B P (zq_i B P r τ) 5 σ 27 [(0, .ref (zw_ad P 57)), (3, .int x3), (4, .int x4)] [] := by
  intro n
  induction n with
  | zero => intro σ x3 x4 hm; cases hm
  | succ n ih =>
    intro σ x3 x4 hm
    unfold m_X7_give_27 at hm
    refine zr_iload E dX7_give_27 2 rfl ?_
    refine zr_bipush (v := 8) E dX7_give_29 (by decide) ?_
    refine zr_icmp_ge (tgt := 75) E dX7_give_31 (by decide) (fun c1 => ?_) (fun c1 => ?_)
    · rw [if_pos c1] at hm
      refine zr_iload_n E dX7_give_75 1 rfl ?_
      exact zr_iret E hr rfl hm dX7_give_76
    · rw [if_neg c1] at hm
      refine zr_aload_n E dX7_give_34 0 rfl ?_
      refine fg_X7_28 E dX7_give_35 ?_
      refine zr_iload E dX7_give_38 2 rfl ?_
      obtain ⟨hv2, v2, ev2, hm⟩ := rd_some hm
      refine zr_iald E ac_64 hv2 ev2 dX7_give_40 ?_
      refine zr_if_ge (tgt := 47) E dX7_give_41 (by decide) (fun c3 => ?_) (fun c3 => ?_)
      · rw [if_pos c3] at hm
        refine zr_aload_n E dX7_give_47 0 rfl ?_
        refine fg_X7_9 E dX7_give_48 ?_
        refine zr_bipush (v := 100) E dX7_give_51 (by decide) ?_
        refine zr_iconst (v := 4) E dX7_give_53 (by decide) ?_
        refine zr_iload E dX7_give_54 2 rfl ?_
        refine zr_imul E dX7_give_56 ?_
        refine zr_iadd E dX7_give_57 ?_
        refine zr_aload_n E dX7_give_58 0 rfl ?_
        refine fg_X7_28 E dX7_give_59 ?_
        refine zr_iload E dX7_give_62 2 rfl ?_
        obtain ⟨hv4, v4, ev4, hm⟩ := rd_some hm
        refine zr_iald E ac_64 hv4 ev4 dX7_give_64 ?_
        obtain ⟨hs5, s5, es5, hm⟩ := wt_some hm
        refine zr_iast E ac_58 hs5 es5 dX7_give_65 ?_
        obtain ⟨v6, ev6, hm⟩ := nm_some hm
        refine zr_iinc (j := 1) (lv' := [(3, .int v6), (0, .ref (zw_ad P 57)), (4, .int x4)]) E dX7_give_66 rfl ev6 (by decide) rfl ?_
        obtain ⟨v7, ev7, hm⟩ := nm_some hm
        refine zr_iinc (j := 2) (lv' := [(4, .int v7), (3, .int v6), (0, .ref (zw_ad P 57))]) E dX7_give_69 rfl ev7 (by decide) rfl ?_
        refine zr_goto (tgt := 27) E dX7_give_72 (by decide) ?_
        refine zr_sub (lv' := [(0, .ref (zw_ad P 57)), (3, .int v6), (4, .int v7)]) [2, 1, 0] rfl ?_
        exact ih s5 v6 v7 hm
      · rw [if_neg c3] at hm
        refine zr_goto (tgt := 69) E dX7_give_44 (by decide) ?_
        obtain ⟨v8, ev8, hm⟩ := nm_some hm
        refine zr_iinc (j := 2) (lv' := [(4, .int v8), (0, .ref (zw_ad P 57)), (3, .int x3)]) E dX7_give_69 rfl ev8 (by decide) rfl ?_
        refine zr_goto (tgt := 27) E dX7_give_72 (by decide) ?_
        refine zr_sub (lv' := [(0, .ref (zw_ad P 57)), (3, .int x3), (4, .int v8)]) [1, 2, 0] rfl ?_
        exact ih σ x3 v8 hm
set_option maxRecDepth 100000 in
set_option maxHeartbeats 4000000 in
theorem c_X7_give (l : Launch) (P : zw_P) (σ : zw_S) (x1 : Int32) : zc_i l P yX7_give cX7_give 5 .int 9 [.ref (zw_ad P 57), .int x1] σ (m_X7_give σ x1) := by
  refine zc_i.of (by decide) (Nat.le_of_ble_eq_true rfl) (fun B r τ E hl hr hm => ?_)
  subst hl
  refine zr_sub (lv' := [(0, .ref (zw_ad P 57)), (1, .int x1)]) [0, 1] rfl ?_
  unfold m_X7_give at hm
  refine zr_aload_n E dX7_give_0 0 rfl ?_
  refine zr_iload_n E dX7_give_1 1 rfl ?_
  obtain ⟨r2, s1, os1, hm⟩ := cl_some hm
  refine zr_cVi (st := []) E mw_726 cm_X7_wrongWay (c_X7_wrongWay B.2.1 P σ x1) os1 (rc_57 P) ⟨by decide, by decide⟩ rfl rfl (Nat.le_of_ble_eq_true rfl) dX7_give_2 ?_
  refine zr_istore_n (lv' := [(2, .int r2), (0, .ref (zw_ad P 57)), (1, .int x1)]) E dX7_give_5 (by decide) rfl ?_
  refine zr_iload_n E dX7_give_6 0 rfl ?_
  refine zr_if_ge (tgt := 16) E dX7_give_7 (by decide) (fun c3 => ?_) (fun c3 => ?_)
  · rw [if_pos c3] at hm
    refine zr_aload_n E dX7_give_16 1 rfl ?_
    refine zr_iload_n E dX7_give_17 2 rfl ?_
    obtain ⟨r5, s4, os4, hm⟩ := cl_some hm
    refine zr_cVi (st := []) E mw_740 cm_X7_bestWay (c_X7_bestWay B.2.1 P s1 x1) os4 (rc_57 P) ⟨by decide, by decide⟩ rfl rfl (Nat.le_of_ble_eq_true rfl) dX7_give_18 ?_
    refine zr_pop E dX7_give_21 rfl ?_
    refine zr_iconst (v := 0) E dX7_give_22 (by decide) ?_
    refine zr_istore_n (lv' := [(3, .int 0), (2, .int r2), (0, .ref (zw_ad P 57)), (1, .int x1)]) E dX7_give_23 (by decide) rfl ?_
    refine zr_iconst (v := 0) E dX7_give_24 (by decide) ?_
    refine zr_istore (lv' := [(4, .int 0), (3, .int 0), (2, .int r2), (0, .ref (zw_ad P 57)), (1, .int x1)]) E dX7_give_25 (by decide) rfl ?_
    refine zr_sub (lv' := [(0, .ref (zw_ad P 57)), (3, .int 0), (4, .int 0)]) [3, 1, 0] rfl ?_
    exact t_X7_give_27 E hr 200 s4 0 0 hm
  · rw [if_neg c3] at hm
    refine zr_aload_n E dX7_give_10 1 rfl ?_
    refine zr_iload_n E dX7_give_11 0 rfl ?_
    obtain ⟨r7, s6, os6, hm⟩ := cl_some hm
    refine zr_cVi (st := []) E mw_127 cm_X7_finds (c_X7_finds B.2.1 P s1 r2) os6 (rc_57 P) ⟨by decide, by decide⟩ rfl rfl (Nat.le_of_ble_eq_true rfl) dX7_give_12 ?_
    exact zr_iret E hr rfl hm dX7_give_15
-- X7_lives
set_option maxRecDepth 100000 in
set_option maxHeartbeats 4000000 in
theorem t_X7_lives_131 {B : zw_B} {P : zw_P} {r : Int32} {τ : zw_S} (E : zf B P cX7_lives RX7 5 7) (hr : B.2.2.2.2.2.2.2.2.1.sig.returnType = some .int) (σ : zw_S) (x3 : Int32) (y0 : Int32) (hm : m_X7_lives_131 σ x3 y0 = some (r, τ)) : zw_G B P (zq_i B P r τ) 5 σ 131 [(0, .ref (zw_ad P 57)), (3, .int x3)] [.int y0] := by
  unfold m_X7_lives_131 at hm
  refine zr_istore (lv' := [(4, .int y0), (0, .ref (zw_ad P 57)), (3, .int x3)]) E dX7_lives_131 (by decide) rfl ?_
  refine zr_aload_n E dX7_lives_133 1 rfl ?_
  refine fg_X7_16 E dX7_lives_134 ?_
  refine zr_aload_n E dX7_lives_137 1 rfl ?_
  refine fg_X7_9 E dX7_lives_138 ?_
  obtain ⟨s1, os1, hm⟩ := cv_some hm
  refine zr_cSv (st := []) E mw_585 cm_X7_row (c_X7_row B.2.1 P 60 58 ac_60 ac_58 σ) os1 ⟨by decide, by decide⟩ rfl rfl (Nat.le_of_ble_eq_true rfl) dX7_lives_141 ?_
  refine zr_iload E dX7_lives_144 0 rfl ?_
  refine zr_if_eq (tgt := 153) E dX7_lives_146 (by decide) (fun c2 => ?_) (fun c2 => ?_)
  · rw [if_pos c2] at hm
    refine zr_aload_n E dX7_lives_153 1 rfl ?_
    refine zr_ldc E mw_613 dX7_lives_154 ?_
    obtain ⟨r4, s3, os3, hm⟩ := cl_some hm
    refine zr_cVi (st := []) E mw_127 cm_X7_finds (c_X7_finds B.2.1 P s1 (-1000004)) os3 (rc_57 P) ⟨by decide, by decide⟩ rfl rfl (Nat.le_of_ble_eq_true rfl) dX7_lives_156 ?_
    exact zr_iret E hr rfl hm dX7_lives_159
  · rw [if_neg c2] at hm
    refine zr_iload_n E dX7_lives_149 2 rfl ?_
    refine zr_goto (tgt := 159) E dX7_lives_150 (by decide) ?_
    exact zr_iret E hr rfl hm dX7_lives_159
set_option maxRecDepth 100000 in
set_option maxHeartbeats 4000000 in
theorem t_X7_lives_118 {B : zw_B} {P : zw_P} {r : Int32} {τ : zw_S} (E : zf B P cX7_lives RX7 5 7) (hr : B.2.2.2.2.2.2.2.2.1.sig.returnType = some .int) (σ : zw_S) (x1 : Int32) (x3 : Int32) (hm : m_X7_lives_118 σ x1 x3 = some (r, τ)) : zw_G B P (zq_i B P r τ) 5 σ 118 [(0, .ref (zw_ad P 57)), (1, .int x1), (3, .int x3)] [] := by
  unfold m_X7_lives_118 at hm
  refine zr_aload_n E dX7_lives_118 0 rfl ?_
  refine zr_iload_n E dX7_lives_119 1 rfl ?_
  obtain ⟨r2, s1, os1, hm⟩ := cl_some hm
  refine zr_cVi (st := []) E mw_281 cm_X7_isOpen (c_X7_isOpen B.2.1 P σ x1) os1 (rc_57 P) ⟨by decide, by decide⟩ rfl rfl (Nat.le_of_ble_eq_true rfl) dX7_lives_120 ?_
  refine zr_if_ne (tgt := 130) E dX7_lives_123 (by decide) (fun c3 => ?_) (fun c3 => ?_)
  · rw [if_neg c3] at hm
    refine zr_iconst (v := 0) E dX7_lives_130 (by decide) ?_
    refine zr_sub (lv' := [(0, .ref (zw_ad P 57)), (3, .int x3)]) [0, 2] rfl ?_
    exact t_X7_lives_131 E hr s1 x3 0 hm
  · rw [if_pos c3] at hm
    refine zr_iconst (v := 1) E dX7_lives_126 (by decide) ?_
    refine zr_goto (tgt := 131) E dX7_lives_127 (by decide) ?_
    refine zr_sub (lv' := [(0, .ref (zw_ad P 57)), (3, .int x3)]) [0, 2] rfl ?_
    exact t_X7_lives_131 E hr s1 x3 1 hm
set_option maxRecDepth 100000 in
set_option maxHeartbeats 4000000 in
theorem t_X7_lives_90 {B : zw_B} {P : zw_P} {r : Int32} {τ : zw_S} (E : zf B P cX7_lives RX7 5 7) (hr : B.2.2.2.2.2.2.2.2.1.sig.returnType = some .int) (R56 : zw_S → Int32 → Int32 → Int32 → Option (Int32 × zw_S)) (hR56 : ∀ (σ : zw_S) (x1 : Int32) (x2 : Int32) (x3 : Int32), R56 σ x1 x2 x3 = some (r, τ) → zw_G B P (zq_i B P r τ) 5 σ 56 [(0, .ref (zw_ad P 57)), (1, .int x1), (2, .int x2), (3, .int x3)] []) : ∀ (n : Nat) (σ : zw_S) (x1 : Int32) (x2 : Int32) (x3 : Int32) (x4 : Int32), m_X7_lives_90 R56 n σ x1 x2 x3 x4 = some (r, τ) → zw_G B P (zq_i B P r τ) 5 σ 90 [(0, .ref (zw_ad P 57)), (1, .int x1), (2, .int x2), (3, .int x3), (4, .int x4)] [] := by
  intro n
  induction n with
  | zero => intro σ x1 x2 x3 x4 hm; cases hm
  | succ n ih =>
    intro σ x1 x2 x3 x4 hm
    unfold m_X7_lives_90 at hm
    refine zr_iload E dX7_lives_90 4 rfl ?_
    refine zr_bipush (v := 40) E dX7_lives_92 (by decide) ?_
    refine zr_icmp_ge (tgt := 115) E dX7_lives_94 (by decide) (fun c1 => ?_) (fun c1 => ?_)
    · rw [if_pos c1] at hm
      refine zr_goto (tgt := 56) E dX7_lives_115 (by decide) ?_
      refine zr_sub (lv' := [(0, .ref (zw_ad P 57)), (1, .int x1), (2, .int x2), (3, .int x3)]) [0, 1, 2, 3] rfl ?_
      exact hR56 σ x1 x2 x3 hm
    · rw [if_neg c1] at hm
      refine zr_aload_n E dX7_lives_97 0 rfl ?_
      refine zr_iload_n E dX7_lives_98 1 rfl ?_
      obtain ⟨r3, s2, os2, hm⟩ := cl_some hm
      refine zr_cVi (st := []) E mw_281 cm_X7_isOpen (c_X7_isOpen B.2.1 P σ x1) os2 (rc_57 P) ⟨by decide, by decide⟩ rfl rfl (Nat.le_of_ble_eq_true rfl) dX7_lives_99 ?_
      refine zr_if_eq (tgt := 115) E dX7_lives_102 (by decide) (fun c4 => ?_) (fun c4 => ?_)
      · rw [if_pos c4] at hm
        refine zr_goto (tgt := 56) E dX7_lives_115 (by decide) ?_
        refine zr_sub (lv' := [(0, .ref (zw_ad P 57)), (1, .int x1), (2, .int x2), (3, .int x3)]) [0, 1, 2, 3] rfl ?_
        exact hR56 s2 x1 x2 x3 hm
      · rw [if_neg c4] at hm
        refine zr_aload_n E dX7_lives_105 0 rfl ?_
        obtain ⟨s5, os5, hm⟩ := cv_some hm
        refine zr_cVv (st := []) E mw_515 cm_X7_year (c_X7_year B.2.1 P s2) os5 (rc_57 P) ⟨by decide, by decide⟩ rfl rfl (Nat.le_of_ble_eq_true rfl) dX7_lives_106 ?_
        obtain ⟨v6, ev6, hm⟩ := nm_some hm
        refine zr_iinc (j := 4) (lv' := [(4, .int v6), (0, .ref (zw_ad P 57)), (1, .int x1), (2, .int x2), (3, .int x3)]) E dX7_lives_109 rfl ev6 (by decide) rfl ?_
        refine zr_goto (tgt := 90) E dX7_lives_112 (by decide) ?_
        refine zr_sub (lv' := [(0, .ref (zw_ad P 57)), (1, .int x1), (2, .int x2), (3, .int x3), (4, .int v6)]) [1, 2, 3, 4, 0] rfl ?_
        exact ih s5 x1 x2 x3 v6 hm
set_option maxRecDepth 100000 in
set_option maxHeartbeats 4000000 in
theorem t_X7_lives_56 {B : zw_B} {P : zw_P} {r : Int32} {τ : zw_S} (E : zf B P cX7_lives RX7 5 7) (hr : B.2.2.2.2.2.2.2.2.1.sig.returnType = some .int) : ∀ (n : Nat) (σ : zw_S) (x1 : Int32) (x2 : Int32) (x3 : Int32), m_X7_lives_56 n σ x1 x2 x3 = some (r, τ) → zw_G B P (zq_i B P r τ) 5 σ 56 [(0, .ref (zw_ad P 57)), (1, .int x1), (2, .int x2), (3, .int x3)] [] := by
  intro n
  induction n with
  | zero => intro σ x1 x2 x3 hm; cases hm
  | succ n ih =>
    intro σ x1 x2 x3 hm
    unfold m_X7_lives_56 at hm
    refine zr_iload_n E dX7_lives_56 3 rfl ?_
    refine zr_bipush (v := 9) E dX7_lives_57 (by decide) ?_
    refine zr_icmp_ge (tgt := 118) E dX7_lives_59 (by decide) (fun c1 => ?_) (fun c1 => ?_)
    · rw [if_pos c1] at hm
      refine zr_sub (lv' := [(0, .ref (zw_ad P 57)), (1, .int x1), (3, .int x3)]) [0, 1, 3] rfl ?_
      exact t_X7_lives_118 E hr σ x1 x3 hm
    · rw [if_neg c1] at hm
      refine zr_aload_n E dX7_lives_62 0 rfl ?_
      refine zr_iload_n E dX7_lives_63 1 rfl ?_
      obtain ⟨r3, s2, os2, hm⟩ := cl_some hm
      refine zr_cVi (st := []) E mw_281 cm_X7_isOpen (c_X7_isOpen B.2.1 P σ x1) os2 (rc_57 P) ⟨by decide, by decide⟩ rfl rfl (Nat.le_of_ble_eq_true rfl) dX7_lives_64 ?_
      refine zr_if_eq (tgt := 118) E dX7_lives_67 (by decide) (fun c4 => ?_) (fun c4 => ?_)
      · rw [if_pos c4] at hm
        refine zr_sub (lv' := [(0, .ref (zw_ad P 57)), (1, .int x1), (3, .int x3)]) [0, 1, 3] rfl ?_
        exact t_X7_lives_118 E hr s2 x1 x3 hm
      · rw [if_neg c4] at hm
        obtain ⟨v5, ev5, hm⟩ := nm_some hm
        refine zr_iinc (j := 3) (lv' := [(3, .int v5), (0, .ref (zw_ad P 57)), (1, .int x1), (2, .int x2)]) E dX7_lives_70 rfl ev5 (by decide) rfl ?_
        refine zr_aload_n E dX7_lives_73 1 rfl ?_
        refine fg_X7_9 E dX7_lives_74 ?_
        refine zr_iconst (v := 3) E dX7_lives_77 (by decide) ?_
        refine zr_iconst (v := 0) E dX7_lives_78 (by decide) ?_
        obtain ⟨hs6, s6, es6, hm⟩ := wt_some hm
        refine zr_iast E ac_58 hs6 es6 dX7_lives_79 ?_
        refine zr_aload_n E dX7_lives_80 1 rfl ?_
        refine zr_iload_n E dX7_lives_81 3 rfl ?_
        refine zr_iconst (v := 0) E dX7_lives_82 (by decide) ?_
        refine zr_iload_n E dX7_lives_83 2 rfl ?_
        obtain ⟨s7, os7, hm⟩ := cv_some hm
        refine zr_cVv (st := []) E mw_334 cm_X7_isBorn (c_X7_isBorn B.2.1 P s6 x2 0 x1) os7 (rc_57 P) ⟨by decide, by decide⟩ rfl rfl (Nat.le_of_ble_eq_true rfl) dX7_lives_84 ?_
        refine zr_iconst (v := 0) E dX7_lives_87 (by decide) ?_
        refine zr_istore (lv' := [(4, .int 0), (3, .int v5), (0, .ref (zw_ad P 57)), (1, .int x1), (2, .int x2)]) E dX7_lives_88 (by decide) rfl ?_
        refine zr_sub (lv' := [(0, .ref (zw_ad P 57)), (1, .int x1), (2, .int x2), (3, .int v5), (4, .int 0)]) [2, 3, 4, 1, 0] rfl ?_
        exact t_X7_lives_90 E hr (m_X7_lives_56 n) ih 200 s7 x1 x2 v5 0 hm
set_option maxRecDepth 100000 in
set_option maxHeartbeats 4000000 in
theorem c_X7_lives (l : Launch) (P : zw_P) (σ : zw_S) (x1 : Int32) (x2 : Int32) : zc_i l P yX7_lives cX7_lives 5 .int 7 [.ref (zw_ad P 57), .int x1, .int x2] σ (m_X7_lives σ x1 x2) := by
  refine zc_i.of (by decide) (Nat.le_of_ble_eq_true rfl) (fun B r τ E hl hr hm => ?_)
  subst hl
  refine zr_sub (lv' := [(0, .ref (zw_ad P 57)), (1, .int x1), (2, .int x2)]) [0, 1, 2] rfl ?_
  unfold m_X7_lives at hm
  refine zr_iload_n E dX7_lives_0 1 rfl ?_
  obtain ⟨r2, s1, os1, hm⟩ := cl_some hm
  refine zr_cSi (st := []) E mw_116 cm_X7_isName (c_X7_isName B.2.1 P σ x1) os1 ⟨by decide, by decide⟩ rfl rfl (Nat.le_of_ble_eq_true rfl) dX7_lives_1 ?_
  refine zr_if_eq (tgt := 14) E dX7_lives_4 (by decide) (fun c3 => ?_) (fun c3 => ?_)
  · rw [if_pos c3] at hm
    refine zr_aload_n E dX7_lives_14 0 rfl ?_
    refine zr_ldc E mw_115 dX7_lives_15 ?_
    obtain ⟨r5, s4, os4, hm⟩ := cl_some hm
    refine zr_cVi (st := []) E mw_127 cm_X7_finds (c_X7_finds B.2.1 P s1 (-1000001)) os4 (rc_57 P) ⟨by decide, by decide⟩ rfl rfl (Nat.le_of_ble_eq_true rfl) dX7_lives_17 ?_
    exact zr_iret E hr rfl hm dX7_lives_20
  · rw [if_neg c3] at hm
    refine zr_iload_n E dX7_lives_7 2 rfl ?_
    obtain ⟨r7, s6, os6, hm⟩ := cl_some hm
    refine zr_cSi (st := []) E mw_330 cm_X7_areHands (c_X7_areHands B.2.1 P s1 x2) os6 ⟨by decide, by decide⟩ rfl rfl (Nat.le_of_ble_eq_true rfl) dX7_lives_8 ?_
    refine zr_if_ne (tgt := 21) E dX7_lives_11 (by decide) (fun c8 => ?_) (fun c8 => ?_)
    · rw [if_neg c8] at hm
      refine zr_aload_n E dX7_lives_21 0 rfl ?_
      refine zr_iload_n E dX7_lives_22 1 rfl ?_
      obtain ⟨r10, s9, os9, hm⟩ := cl_some hm
      refine zr_cVi (st := []) E mw_281 cm_X7_isOpen (c_X7_isOpen B.2.1 P s6 x1) os9 (rc_57 P) ⟨by decide, by decide⟩ rfl rfl (Nat.le_of_ble_eq_true rfl) dX7_lives_23 ?_
      refine zr_if_ne (tgt := 36) E dX7_lives_26 (by decide) (fun c11 => ?_) (fun c11 => ?_)
      · rw [if_neg c11] at hm
        refine zr_aload_n E dX7_lives_36 0 rfl ?_
        refine fg_X7_9 E dX7_lives_37 ?_
        refine zr_aload_n E dX7_lives_40 0 rfl ?_
        refine fg_X7_16 E dX7_lives_41 ?_
        obtain ⟨s12, os12, hm⟩ := cv_some hm
        refine zr_cSv (st := []) E mw_585 cm_X7_row (c_X7_row B.2.1 P 58 60 ac_58 ac_60 s9) os12 ⟨by decide, by decide⟩ rfl rfl (Nat.le_of_ble_eq_true rfl) dX7_lives_44 ?_
        refine zr_aload_n E dX7_lives_47 0 rfl ?_
        refine fg_X7_9 E dX7_lives_48 ?_
        refine zr_iconst (v := 3) E dX7_lives_51 (by decide) ?_
        refine zr_iconst (v := 0) E dX7_lives_52 (by decide) ?_
        obtain ⟨hs13, s13, es13, hm⟩ := wt_some hm
        refine zr_iast E ac_58 hs13 es13 dX7_lives_53 ?_
        refine zr_iconst (v := 0) E dX7_lives_54 (by decide) ?_
        refine zr_istore_n (lv' := [(3, .int 0), (0, .ref (zw_ad P 57)), (1, .int x1), (2, .int x2)]) E dX7_lives_55 (by decide) rfl ?_
        refine zr_sub (lv' := [(0, .ref (zw_ad P 57)), (1, .int x1), (2, .int x2), (3, .int 0)]) [1, 2, 3, 0] rfl ?_
        exact t_X7_lives_56 E hr 200 s13 x1 x2 0 hm
      · rw [if_pos c11] at hm
        refine zr_aload_n E dX7_lives_29 0 rfl ?_
        refine zr_ldc E mw_394 dX7_lives_30 ?_
        obtain ⟨r15, s14, os14, hm⟩ := cl_some hm
        refine zr_cVi (st := []) E mw_127 cm_X7_finds (c_X7_finds B.2.1 P s9 (-1000005)) os14 (rc_57 P) ⟨by decide, by decide⟩ rfl rfl (Nat.le_of_ble_eq_true rfl) dX7_lives_32 ?_
        exact zr_iret E hr rfl hm dX7_lives_35
    · rw [if_pos c8] at hm
      refine zr_aload_n E dX7_lives_14 0 rfl ?_
      refine zr_ldc E mw_115 dX7_lives_15 ?_
      obtain ⟨r17, s16, os16, hm⟩ := cl_some hm
      refine zr_cVi (st := []) E mw_127 cm_X7_finds (c_X7_finds B.2.1 P s6 (-1000001)) os16 (rc_57 P) ⟨by decide, by decide⟩ rfl rfl (Nat.le_of_ble_eq_true rfl) dX7_lives_17 ?_
      exact zr_iret E hr rfl hm dX7_lives_20
-- X7_hoursBehind
set_option maxRecDepth 100000 in
set_option maxHeartbeats 4000000 in
theorem c_X7_hoursBehind (l : Launch) (P : zw_P) (σ : zw_S) (x1 : Int32) : zc_i l P yX7_hoursBehind cX7_hoursBehind 3 .int 8 [.ref (zw_ad P 57), .int x1] σ (m_X7_hoursBehind σ x1) := by
  refine zc_i.of (by decide) (Nat.le_of_ble_eq_true rfl) (fun B r τ E hl hr hm => ?_)
  subst hl
  refine zr_sub (lv' := [(0, .ref (zw_ad P 57)), (1, .int x1)]) [0, 1] rfl ?_
  unfold m_X7_hoursBehind at hm
  refine zr_aload_n E dX7_hoursBehind_0 0 rfl ?_
  refine fg_X7_9 E dX7_hoursBehind_1 ?_
  refine zr_aload_n E dX7_hoursBehind_4 0 rfl ?_
  refine fg_X7_16 E dX7_hoursBehind_5 ?_
  obtain ⟨s1, os1, hm⟩ := cv_some hm
  refine zr_cSv (st := []) E mw_585 cm_X7_row (c_X7_row B.2.1 P 58 60 ac_58 ac_60 σ) os1 ⟨by decide, by decide⟩ rfl rfl (Nat.le_of_ble_eq_true rfl) dX7_hoursBehind_8 ?_
  refine zr_aload_n E dX7_hoursBehind_11 0 rfl ?_
  refine zr_iload_n E dX7_hoursBehind_12 1 rfl ?_
  obtain ⟨s2, os2, hm⟩ := cv_some hm
  refine zr_cVv (st := []) E mw_511 cm_X7_yearsGo (c_X7_yearsGo B.2.1 P s1 x1) os2 (rc_57 P) ⟨by decide, by decide⟩ rfl rfl (Nat.le_of_ble_eq_true rfl) dX7_hoursBehind_13 ?_
  refine zr_aload_n E dX7_hoursBehind_16 0 rfl ?_
  obtain ⟨r4, s3, os3, hm⟩ := cl_some hm
  refine zr_cVi (st := []) E mw_588 cm_X7_hours (c_X7_hours B.2.1 P s2) os3 (rc_57 P) ⟨by decide, by decide⟩ rfl rfl (Nat.le_of_ble_eq_true rfl) dX7_hoursBehind_17 ?_
  refine zr_istore_n (lv' := [(2, .int r4), (0, .ref (zw_ad P 57)), (1, .int x1)]) E dX7_hoursBehind_20 (by decide) rfl ?_
  refine zr_aload_n E dX7_hoursBehind_21 1 rfl ?_
  refine fg_X7_16 E dX7_hoursBehind_22 ?_
  refine zr_aload_n E dX7_hoursBehind_25 1 rfl ?_
  refine fg_X7_9 E dX7_hoursBehind_26 ?_
  obtain ⟨s5, os5, hm⟩ := cv_some hm
  refine zr_cSv (st := []) E mw_585 cm_X7_row (c_X7_row B.2.1 P 60 58 ac_60 ac_58 s3) os5 ⟨by decide, by decide⟩ rfl rfl (Nat.le_of_ble_eq_true rfl) dX7_hoursBehind_29 ?_
  refine zr_iload_n E dX7_hoursBehind_32 0 rfl ?_
  exact zr_iret E hr rfl hm dX7_hoursBehind_33
-- X7_best
set_option maxRecDepth 100000 in
set_option maxHeartbeats 4000000 in
theorem t_X7_best_128 {B : zw_B} {P : zw_P} {r : Int32} {τ : zw_S} (E : zf B P cX7_best RX7 7 9) (hr : B.2.2.2.2.2.2.2.2.1.sig.returnType = some .int) (σ : zw_S) (x2 : Int32) (hm : m_X7_best_128 σ x2 = some (r, τ)) : zw_G B P (zq_i B P r τ) 7 σ 128 [(0, .ref (zw_ad P 57)), (2, .int x2)] [] := by
  unfold m_X7_best_128 at hm
  refine zr_aload_n E dX7_best_128 0 rfl ?_
  refine zr_iload_n E dX7_best_129 1 rfl ?_
  obtain ⟨r2, s1, os1, hm⟩ := cl_some hm
  refine zr_cVi (st := []) E mw_647 cm_X7_orNone (c_X7_orNone B.2.1 P σ x2) os1 (rc_57 P) ⟨by decide, by decide⟩ rfl rfl (Nat.le_of_ble_eq_true rfl) dX7_best_130 ?_
  exact zr_iret E hr rfl hm dX7_best_133
set_option maxRecDepth 100000 in
set_option maxHeartbeats 4000000 in
theorem t_X7_best_41 {B : zw_B} {P : zw_P} {r : Int32} {τ : zw_S} (E : zf B P cX7_best RX7 7 9) (hr : B.2.2.2.2.2.2.2.2.1.sig.returnType = some .int) : ∀ (n : Nat) (σ : zw_S) (x1 : Int32) (x2 : Int32) (x3 : Int32) (x4 : Int32), m_X7_best_41 n σ x1 x2 x3 x4 = some (r, τ) → zw_G B P (zq_i B P r τ) 7 σ 41 [(0, .ref (zw_ad P 57)), (1, .int x1), (2, .int x2), (3, .int x3), (4, .int x4)] [] := by
  intro n
  induction n with
  | zero => intro σ x1 x2 x3 x4 hm; cases hm
  | succ n ih =>
    intro σ x1 x2 x3 x4 hm
    unfold m_X7_best_41 at hm
    refine zr_iload E dX7_best_41 4 rfl ?_
    refine zr_aload_n E dX7_best_43 0 rfl ?_
    refine fg_X7_9 E dX7_best_44 ?_
    refine zr_iconst (v := 2) E dX7_best_47 (by decide) ?_
    obtain ⟨hv1, v1, ev1, hm⟩ := rd_some hm
    refine zr_iald E ac_58 hv1 ev1 dX7_best_48 ?_
    refine zr_icmp_ge (tgt := 128) E dX7_best_49 (by decide) (fun c2 => ?_) (fun c2 => ?_)
    · rw [if_pos c2] at hm
      refine zr_sub (lv' := [(0, .ref (zw_ad P 57)), (2, .int x2)]) [0, 2] rfl ?_
      exact t_X7_best_128 E hr σ x2 hm
    · rw [if_neg c2] at hm
      refine zr_aload_n E dX7_best_52 0 rfl ?_
      refine zr_iload E dX7_best_53 4 rfl ?_
      obtain ⟨r4, s3, os3, hm⟩ := cl_some hm
      refine zr_cVi (st := []) E mw_207 cm_X7_isEnded (c_X7_isEnded B.2.1 P σ x4) os3 (rc_57 P) ⟨by decide, by decide⟩ rfl rfl (Nat.le_of_ble_eq_true rfl) dX7_best_55 ?_
      refine zr_if_eq (tgt := 64) E dX7_best_58 (by decide) (fun c5 => ?_) (fun c5 => ?_)
      · rw [if_pos c5] at hm
        refine zr_aload_n E dX7_best_64 0 rfl ?_
        refine zr_bipush (v := 20) E dX7_best_65 (by decide) ?_
        refine zr_iconst (v := 4) E dX7_best_67 (by decide) ?_
        refine zr_iload E dX7_best_68 4 rfl ?_
        refine zr_imul E dX7_best_70 ?_
        refine zr_iadd E dX7_best_71 ?_
        refine zr_iconst (v := 2) E dX7_best_72 (by decide) ?_
        refine zr_iadd E dX7_best_73 ?_
        refine zr_iconst (v := 0) E dX7_best_74 (by decide) ?_
        obtain ⟨r7, s6, os6, hm⟩ := cl_some hm
        refine zr_cVi (st := []) E mw_123 cm_X7_becomes (c_X7_becomes B.2.1 P s3 ((20 + (4 * x4)) + 2) 0) os6 (rc_57 P) ⟨by decide, by decide⟩ rfl rfl (Nat.le_of_ble_eq_true rfl) dX7_best_75 ?_
        refine zr_istore (lv' := [(5, .int r7), (0, .ref (zw_ad P 57)), (1, .int x1), (2, .int x2), (3, .int x3), (4, .int x4)]) E dX7_best_78 (by decide) rfl ?_
        refine zr_aload_n E dX7_best_80 1 rfl ?_
        refine zr_iload_n E dX7_best_81 2 rfl ?_
        obtain ⟨r9, s8, os8, hm⟩ := cl_some hm
        refine zr_cVi (st := []) E mw_772 cm_X7_hoursBehind (c_X7_hoursBehind B.2.1 P s6 x1) os8 (rc_57 P) ⟨by decide, by decide⟩ rfl rfl (Nat.le_of_ble_eq_true rfl) dX7_best_82 ?_
        refine zr_istore (lv' := [(6, .int r9), (5, .int r7), (0, .ref (zw_ad P 57)), (1, .int x1), (2, .int x2), (3, .int x3), (4, .int x4)]) E dX7_best_85 (by decide) rfl ?_
        refine zr_aload_n E dX7_best_87 2 rfl ?_
        refine fg_X7_9 E dX7_best_88 ?_
        refine zr_bipush (v := 20) E dX7_best_91 (by decide) ?_
        refine zr_iconst (v := 4) E dX7_best_93 (by decide) ?_
        refine zr_iload E dX7_best_94 6 rfl ?_
        refine zr_imul E dX7_best_96 ?_
        refine zr_iadd E dX7_best_97 ?_
        refine zr_iconst (v := 2) E dX7_best_98 (by decide) ?_
        refine zr_iadd E dX7_best_99 ?_
        refine zr_iload E dX7_best_100 1 rfl ?_
        obtain ⟨hs10, s10, es10, hm⟩ := wt_some hm
        refine zr_iast E ac_58 hs10 es10 dX7_best_102 ?_
        refine zr_iload_n E dX7_best_103 4 rfl ?_
        refine zr_if_lt (tgt := 116) E dX7_best_104 (by decide) (fun c11 => ?_) (fun c11 => ?_)
        · rw [if_pos c11] at hm
          refine zr_iload E dX7_best_116 6 rfl ?_
          refine zr_istore_n (lv' := [(2, .int x4), (6, .int r9), (5, .int r7), (0, .ref (zw_ad P 57)), (1, .int x1), (3, .int x3), (4, .int x4)]) E dX7_best_118 (by decide) rfl ?_
          refine zr_iload E dX7_best_119 1 rfl ?_
          refine zr_istore_n (lv' := [(3, .int r9), (2, .int x4), (6, .int r9), (5, .int r7), (0, .ref (zw_ad P 57)), (1, .int x1), (4, .int x4)]) E dX7_best_121 (by decide) rfl ?_
          obtain ⟨v12, ev12, hm⟩ := nm_some hm
          refine zr_iinc (j := 6) (lv' := [(4, .int v12), (3, .int r9), (2, .int x4), (6, .int r9), (5, .int r7), (0, .ref (zw_ad P 57)), (1, .int x1)]) E dX7_best_122 rfl ev12 (by decide) rfl ?_
          refine zr_goto (tgt := 41) E dX7_best_125 (by decide) ?_
          refine zr_sub (lv' := [(0, .ref (zw_ad P 57)), (1, .int x1), (2, .int x4), (3, .int r9), (4, .int v12)]) [5, 6, 2, 1, 0] rfl ?_
          exact ih s10 x1 x4 r9 v12 hm
        · rw [if_neg c11] at hm
          refine zr_iload E dX7_best_107 0 rfl ?_
          refine zr_iload_n E dX7_best_109 5 rfl ?_
          refine zr_icmp_lt (tgt := 116) E dX7_best_110 (by decide) (fun c13 => ?_) (fun c13 => ?_)
          · rw [if_pos c13] at hm
            refine zr_iload E dX7_best_116 6 rfl ?_
            refine zr_istore_n (lv' := [(2, .int x4), (6, .int r9), (5, .int r7), (0, .ref (zw_ad P 57)), (1, .int x1), (3, .int x3), (4, .int x4)]) E dX7_best_118 (by decide) rfl ?_
            refine zr_iload E dX7_best_119 1 rfl ?_
            refine zr_istore_n (lv' := [(3, .int r9), (2, .int x4), (6, .int r9), (5, .int r7), (0, .ref (zw_ad P 57)), (1, .int x1), (4, .int x4)]) E dX7_best_121 (by decide) rfl ?_
            obtain ⟨v14, ev14, hm⟩ := nm_some hm
            refine zr_iinc (j := 6) (lv' := [(4, .int v14), (3, .int r9), (2, .int x4), (6, .int r9), (5, .int r7), (0, .ref (zw_ad P 57)), (1, .int x1)]) E dX7_best_122 rfl ev14 (by decide) rfl ?_
            refine zr_goto (tgt := 41) E dX7_best_125 (by decide) ?_
            refine zr_sub (lv' := [(0, .ref (zw_ad P 57)), (1, .int x1), (2, .int x4), (3, .int r9), (4, .int v14)]) [5, 6, 2, 1, 0] rfl ?_
            exact ih s10 x1 x4 r9 v14 hm
          · rw [if_neg c13] at hm
            refine zr_goto (tgt := 122) E dX7_best_113 (by decide) ?_
            obtain ⟨v15, ev15, hm⟩ := nm_some hm
            refine zr_iinc (j := 6) (lv' := [(4, .int v15), (6, .int r9), (5, .int r7), (0, .ref (zw_ad P 57)), (1, .int x1), (2, .int x2), (3, .int x3)]) E dX7_best_122 rfl ev15 (by decide) rfl ?_
            refine zr_goto (tgt := 41) E dX7_best_125 (by decide) ?_
            refine zr_sub (lv' := [(0, .ref (zw_ad P 57)), (1, .int x1), (2, .int x2), (3, .int x3), (4, .int v15)]) [3, 4, 5, 6, 0] rfl ?_
            exact ih s10 x1 x2 x3 v15 hm
      · rw [if_neg c5] at hm
        refine zr_goto (tgt := 122) E dX7_best_61 (by decide) ?_
        obtain ⟨v16, ev16, hm⟩ := nm_some hm
        refine zr_iinc (j := 4) (lv' := [(4, .int v16), (0, .ref (zw_ad P 57)), (1, .int x1), (2, .int x2), (3, .int x3)]) E dX7_best_122 rfl ev16 (by decide) rfl ?_
        refine zr_goto (tgt := 41) E dX7_best_125 (by decide) ?_
        refine zr_sub (lv' := [(0, .ref (zw_ad P 57)), (1, .int x1), (2, .int x2), (3, .int x3), (4, .int v16)]) [1, 2, 3, 4, 0] rfl ?_
        exact ih s3 x1 x2 x3 v16 hm
set_option maxRecDepth 100000 in
set_option maxHeartbeats 4000000 in
theorem c_X7_best (l : Launch) (P : zw_P) (σ : zw_S) (x1 : Int32) : zc_i l P yX7_best cX7_best 7 .int 9 [.ref (zw_ad P 57), .int x1] σ (m_X7_best σ x1) := by
  refine zc_i.of (by decide) (Nat.le_of_ble_eq_true rfl) (fun B r τ E hl hr hm => ?_)
  subst hl
  refine zr_sub (lv' := [(0, .ref (zw_ad P 57)), (1, .int x1)]) [0, 1] rfl ?_
  unfold m_X7_best at hm
  refine zr_iload_n E dX7_best_0 1 rfl ?_
  refine zr_i2l E dX7_best_1 ?_
  refine zr_lconst (v := 1) E dX7_best_2 (by decide) ?_
  refine zr_ldc2 E mw_498 dX7_best_3 ?_
  obtain ⟨r2, s1, os1, hm⟩ := cl_some hm
  refine zr_cSi (st := []) E mw_120 cm_X7_in (c_X7_in B.2.1 P σ x1.toInt64 1 60) os1 ⟨by decide, by decide⟩ rfl rfl (Nat.le_of_ble_eq_true rfl) dX7_best_6 ?_
  refine zr_if_ne (tgt := 19) E dX7_best_9 (by decide) (fun c3 => ?_) (fun c3 => ?_)
  · rw [if_neg c3] at hm
    refine zr_aload_n E dX7_best_19 0 rfl ?_
    refine zr_iload_n E dX7_best_20 1 rfl ?_
    obtain ⟨r5, s4, os4, hm⟩ := cl_some hm
    refine zr_cVi (st := []) E mw_499 cm_X7_isFarOn (c_X7_isFarOn B.2.1 P s1 x1) os4 (rc_57 P) ⟨by decide, by decide⟩ rfl rfl (Nat.le_of_ble_eq_true rfl) dX7_best_21 ?_
    refine zr_if_eq (tgt := 34) E dX7_best_24 (by decide) (fun c6 => ?_) (fun c6 => ?_)
    · rw [if_pos c6] at hm
      refine zr_iconst (v := (-1)) E dX7_best_34 (by decide) ?_
      refine zr_istore_n (lv' := [(2, .int ((-1))), (0, .ref (zw_ad P 57)), (1, .int x1)]) E dX7_best_35 (by decide) rfl ?_
      refine zr_iconst (v := 0) E dX7_best_36 (by decide) ?_
      refine zr_istore_n (lv' := [(3, .int 0), (2, .int ((-1))), (0, .ref (zw_ad P 57)), (1, .int x1)]) E dX7_best_37 (by decide) rfl ?_
      refine zr_iconst (v := 0) E dX7_best_38 (by decide) ?_
      refine zr_istore (lv' := [(4, .int 0), (3, .int 0), (2, .int ((-1))), (0, .ref (zw_ad P 57)), (1, .int x1)]) E dX7_best_39 (by decide) rfl ?_
      refine zr_sub (lv' := [(0, .ref (zw_ad P 57)), (1, .int x1), (2, .int ((-1))), (3, .int 0), (4, .int 0)]) [3, 4, 2, 1, 0] rfl ?_
      exact t_X7_best_41 E hr 200 s4 x1 (-1) 0 0 hm
    · rw [if_neg c6] at hm
      refine zr_aload_n E dX7_best_27 0 rfl ?_
      refine zr_ldc E mw_394 dX7_best_28 ?_
      obtain ⟨r8, s7, os7, hm⟩ := cl_some hm
      refine zr_cVi (st := []) E mw_127 cm_X7_finds (c_X7_finds B.2.1 P s4 (-1000005)) os7 (rc_57 P) ⟨by decide, by decide⟩ rfl rfl (Nat.le_of_ble_eq_true rfl) dX7_best_30 ?_
      exact zr_iret E hr rfl hm dX7_best_33
  · rw [if_pos c3] at hm
    refine zr_aload_n E dX7_best_12 0 rfl ?_
    refine zr_ldc E mw_115 dX7_best_13 ?_
    obtain ⟨r10, s9, os9, hm⟩ := cl_some hm
    refine zr_cVi (st := []) E mw_127 cm_X7_finds (c_X7_finds B.2.1 P s1 (-1000001)) os9 (rc_57 P) ⟨by decide, by decide⟩ rfl rfl (Nat.le_of_ble_eq_true rfl) dX7_best_15 ?_
    exact zr_iret E hr rfl hm dX7_best_18
-- X7_whom
set_option maxRecDepth 100000 in
set_option maxHeartbeats 4000000 in
theorem t_X7_whom_131 {B : zw_B} {P : zw_P} {r : Int32} {τ : zw_S} (E : zf B P cX7_whom RX7 9 9) (hr : B.2.2.2.2.2.2.2.2.1.sig.returnType = some .int) (σ : zw_S) (x3 : Int32) (x4 : Int32) (x5 : Int32) (hm : m_X7_whom_131 σ x3 x4 x5 = some (r, τ)) : zw_G B P (zq_i B P r τ) 9 σ 131 [(0, .ref (zw_ad P 57)), (3, .int x3), (4, .int x4), (5, .int x5)] [] := by
  unfold m_X7_whom_131 at hm
  refine zr_aload_n E dX7_whom_131 0 rfl ?_
  refine fg_X7_9 E dX7_whom_132 ?_
  refine zr_iload_n E dX7_whom_135 1 rfl ?_
  refine zr_iload E dX7_whom_136 2 rfl ?_
  obtain ⟨hs1, s1, es1, hm⟩ := wt_some hm
  refine zr_iast E ac_58 hs1 es1 dX7_whom_138 ?_
  refine zr_iload E dX7_whom_139 3 rfl ?_
  exact zr_iret E hr rfl hm dX7_whom_141
set_option maxRecDepth 100000 in
set_option maxHeartbeats 4000000 in
theorem t_X7_whom_72 {B : zw_B} {P : zw_P} {r : Int32} {τ : zw_S} (E : zf B P cX7_whom RX7 9 9) (hr : B.2.2.2.2.2.2.2.2.1.sig.returnType = some .int) : ∀ (n : Nat) (σ : zw_S) (x1 : Int32) (x2 : Int32) (x3 : Int32) (x4 : Int32) (x5 : Int32) (x6 : Int32) (x7 : Int32), m_X7_whom_72 n σ x1 x2 x3 x4 x5 x6 x7 = some (r, τ) → zw_G B P (zq_i B P r τ) 9 σ 72 [(0, .ref (zw_ad P 57)), (1, .int x1), (2, .int x2), (3, .int x3), (4, .int x4), (5, .int x5), (6, .int x6), (7, .int x7)] [] := by
  intro n
  induction n with
  | zero => intro σ x1 x2 x3 x4 x5 x6 x7 hm; cases hm
  | succ n ih =>
    intro σ x1 x2 x3 x4 x5 x6 x7 hm
    unfold m_X7_whom_72 at hm
    refine zr_iload E dX7_whom_72 7 rfl ?_
    refine zr_aload_n E dX7_whom_74 0 rfl ?_
    refine fg_X7_9 E dX7_whom_75 ?_
    refine zr_iconst (v := 3) E dX7_whom_78 (by decide) ?_
    obtain ⟨hv1, v1, ev1, hm⟩ := rd_some hm
    refine zr_iald E ac_58 hv1 ev1 dX7_whom_79 ?_
    refine zr_icmp_ge (tgt := 131) E dX7_whom_80 (by decide) (fun c2 => ?_) (fun c2 => ?_)
    · rw [if_pos c2] at hm
      refine zr_sub (lv' := [(0, .ref (zw_ad P 57)), (3, .int x3), (4, .int x4), (5, .int x5)]) [0, 3, 4, 5] rfl ?_
      exact t_X7_whom_131 E hr σ x3 x4 x5 hm
    · rw [if_neg c2] at hm
      refine zr_iload E dX7_whom_83 7 rfl ?_
      refine zr_iload_n E dX7_whom_85 1 rfl ?_
      refine zr_icmp_ne (tgt := 92) E dX7_whom_86 (by decide) (fun c3 => ?_) (fun c3 => ?_)
      · rw [if_neg c3] at hm
        refine zr_aload_n E dX7_whom_92 0 rfl ?_
        refine fg_X7_9 E dX7_whom_93 ?_
        refine zr_iload_n E dX7_whom_96 3 rfl ?_
        refine zr_iload E dX7_whom_97 7 rfl ?_
        obtain ⟨hs4, s4, es4, hm⟩ := wt_some hm
        refine zr_iast E ac_58 hs4 es4 dX7_whom_99 ?_
        refine zr_aload_n E dX7_whom_100 0 rfl ?_
        refine zr_iload_n E dX7_whom_101 2 rfl ?_
        obtain ⟨r6, s5, os5, hm⟩ := cl_some hm
        refine zr_cVi (st := []) E mw_772 cm_X7_hoursBehind (c_X7_hoursBehind B.2.1 P s4 x2) os5 (rc_57 P) ⟨by decide, by decide⟩ rfl rfl (Nat.le_of_ble_eq_true rfl) dX7_whom_102 ?_
        refine zr_istore (lv' := [(8, .int r6), (0, .ref (zw_ad P 57)), (1, .int x1), (2, .int x2), (3, .int x3), (4, .int x4), (5, .int x5), (6, .int x6), (7, .int x7)]) E dX7_whom_105 (by decide) rfl ?_
        refine zr_iload E dX7_whom_107 0 rfl ?_
        refine zr_iload E dX7_whom_109 7 rfl ?_
        refine zr_icmp_lt (tgt := 117) E dX7_whom_111 (by decide) (fun c7 => ?_) (fun c7 => ?_)
        · rw [if_pos c7] at hm
          refine zr_iload E dX7_whom_117 8 rfl ?_
          refine zr_istore (lv' := [(5, .int x7), (8, .int r6), (0, .ref (zw_ad P 57)), (1, .int x1), (2, .int x2), (3, .int x3), (4, .int x4), (6, .int x6), (7, .int x7)]) E dX7_whom_119 (by decide) rfl ?_
          refine zr_iload E dX7_whom_121 1 rfl ?_
          refine zr_istore (lv' := [(6, .int r6), (5, .int x7), (8, .int r6), (0, .ref (zw_ad P 57)), (1, .int x1), (2, .int x2), (3, .int x3), (4, .int x4), (7, .int x7)]) E dX7_whom_123 (by decide) rfl ?_
          obtain ⟨v8, ev8, hm⟩ := nm_some hm
          refine zr_iinc (j := 8) (lv' := [(7, .int v8), (6, .int r6), (5, .int x7), (8, .int r6), (0, .ref (zw_ad P 57)), (1, .int x1), (2, .int x2), (3, .int x3), (4, .int x4)]) E dX7_whom_125 rfl ev8 (by decide) rfl ?_
          refine zr_goto (tgt := 72) E dX7_whom_128 (by decide) ?_
          refine zr_sub (lv' := [(0, .ref (zw_ad P 57)), (1, .int x1), (2, .int x2), (3, .int x3), (4, .int x4), (5, .int x7), (6, .int r6), (7, .int v8)]) [4, 5, 6, 7, 8, 2, 1, 0] rfl ?_
          exact ih s5 x1 x2 x3 x4 x7 r6 v8 hm
        · rw [if_neg c7] at hm
          refine zr_goto (tgt := 125) E dX7_whom_114 (by decide) ?_
          obtain ⟨v9, ev9, hm⟩ := nm_some hm
          refine zr_iinc (j := 8) (lv' := [(7, .int v9), (8, .int r6), (0, .ref (zw_ad P 57)), (1, .int x1), (2, .int x2), (3, .int x3), (4, .int x4), (5, .int x5), (6, .int x6)]) E dX7_whom_125 rfl ev9 (by decide) rfl ?_
          refine zr_goto (tgt := 72) E dX7_whom_128 (by decide) ?_
          refine zr_sub (lv' := [(0, .ref (zw_ad P 57)), (1, .int x1), (2, .int x2), (3, .int x3), (4, .int x4), (5, .int x5), (6, .int x6), (7, .int v9)]) [2, 3, 4, 5, 6, 7, 8, 0] rfl ?_
          exact ih s5 x1 x2 x3 x4 x5 x6 v9 hm
      · rw [if_pos c3] at hm
        refine zr_goto (tgt := 125) E dX7_whom_89 (by decide) ?_
        obtain ⟨v10, ev10, hm⟩ := nm_some hm
        refine zr_iinc (j := 7) (lv' := [(7, .int v10), (0, .ref (zw_ad P 57)), (1, .int x1), (2, .int x2), (3, .int x3), (4, .int x4), (5, .int x5), (6, .int x6)]) E dX7_whom_125 rfl ev10 (by decide) rfl ?_
        refine zr_goto (tgt := 72) E dX7_whom_128 (by decide) ?_
        refine zr_sub (lv' := [(0, .ref (zw_ad P 57)), (1, .int x1), (2, .int x2), (3, .int x3), (4, .int x4), (5, .int x5), (6, .int x6), (7, .int v10)]) [1, 2, 3, 4, 5, 6, 7, 0] rfl ?_
        exact ih σ x1 x2 x3 x4 x5 x6 v10 hm
set_option maxRecDepth 100000 in
set_option maxHeartbeats 4000000 in
theorem c_X7_whom (l : Launch) (P : zw_P) (σ : zw_S) (x1 : Int32) (x2 : Int32) : zc_i l P yX7_whom cX7_whom 9 .int 9 [.ref (zw_ad P 57), .int x1, .int x2] σ (m_X7_whom σ x1 x2) := by
  refine zc_i.of (by decide) (Nat.le_of_ble_eq_true rfl) (fun B r τ E hl hr hm => ?_)
  subst hl
  refine zr_sub (lv' := [(0, .ref (zw_ad P 57)), (1, .int x1), (2, .int x2)]) [0, 1, 2] rfl ?_
  unfold m_X7_whom at hm
  refine zr_aload_n E dX7_whom_0 0 rfl ?_
  refine zr_iload_n E dX7_whom_1 1 rfl ?_
  obtain ⟨r2, s1, os1, hm⟩ := cl_some hm
  refine zr_cVi (st := []) E mw_355 cm_X7_isPerson (c_X7_isPerson B.2.1 P σ x1) os1 (rc_57 P) ⟨by decide, by decide⟩ rfl rfl (Nat.le_of_ble_eq_true rfl) dX7_whom_2 ?_
  refine zr_if_eq (tgt := 20) E dX7_whom_5 (by decide) (fun c3 => ?_) (fun c3 => ?_)
  · rw [if_pos c3] at hm
    refine zr_aload_n E dX7_whom_20 0 rfl ?_
    refine zr_ldc E mw_115 dX7_whom_21 ?_
    obtain ⟨r5, s4, os4, hm⟩ := cl_some hm
    refine zr_cVi (st := []) E mw_127 cm_X7_finds (c_X7_finds B.2.1 P s1 (-1000001)) os4 (rc_57 P) ⟨by decide, by decide⟩ rfl rfl (Nat.le_of_ble_eq_true rfl) dX7_whom_23 ?_
    exact zr_iret E hr rfl hm dX7_whom_26
  · rw [if_neg c3] at hm
    refine zr_iload_n E dX7_whom_8 2 rfl ?_
    refine zr_i2l E dX7_whom_9 ?_
    refine zr_lconst (v := 1) E dX7_whom_10 (by decide) ?_
    refine zr_ldc2 E mw_498 dX7_whom_11 ?_
    obtain ⟨r7, s6, os6, hm⟩ := cl_some hm
    refine zr_cSi (st := []) E mw_120 cm_X7_in (c_X7_in B.2.1 P s1 x2.toInt64 1 60) os6 ⟨by decide, by decide⟩ rfl rfl (Nat.le_of_ble_eq_true rfl) dX7_whom_14 ?_
    refine zr_if_ne (tgt := 27) E dX7_whom_17 (by decide) (fun c8 => ?_) (fun c8 => ?_)
    · rw [if_neg c8] at hm
      refine zr_aload_n E dX7_whom_27 0 rfl ?_
      refine zr_iload_n E dX7_whom_28 2 rfl ?_
      obtain ⟨r10, s9, os9, hm⟩ := cl_some hm
      refine zr_cVi (st := []) E mw_499 cm_X7_isFarOn (c_X7_isFarOn B.2.1 P s6 x2) os9 (rc_57 P) ⟨by decide, by decide⟩ rfl rfl (Nat.le_of_ble_eq_true rfl) dX7_whom_29 ?_
      refine zr_if_eq (tgt := 42) E dX7_whom_32 (by decide) (fun c11 => ?_) (fun c11 => ?_)
      · rw [if_pos c11] at hm
        refine zr_bipush (v := 100) E dX7_whom_42 (by decide) ?_
        refine zr_iconst (v := 4) E dX7_whom_44 (by decide) ?_
        refine zr_iload_n E dX7_whom_45 1 rfl ?_
        refine zr_imul E dX7_whom_46 ?_
        refine zr_iadd E dX7_whom_47 ?_
        refine zr_iconst (v := 3) E dX7_whom_48 (by decide) ?_
        refine zr_iadd E dX7_whom_49 ?_
        obtain ⟨v12, ev12, hm⟩ := nm_some hm
        refine zr_top ev12 ?_
        refine zr_istore_n (lv' := [(3, .int v12), (0, .ref (zw_ad P 57)), (1, .int x1), (2, .int x2)]) E dX7_whom_50 (by decide) rfl ?_
        refine zr_aload_n E dX7_whom_51 1 rfl ?_
        refine zr_iload_n E dX7_whom_52 0 rfl ?_
        refine zr_iconst (v := (-1)) E dX7_whom_53 (by decide) ?_
        obtain ⟨r14, s13, os13, hm⟩ := cl_some hm
        refine zr_cVi (st := []) E mw_123 cm_X7_becomes (c_X7_becomes B.2.1 P s9 v12 (-1)) os13 (rc_57 P) ⟨by decide, by decide⟩ rfl rfl (Nat.le_of_ble_eq_true rfl) dX7_whom_54 ?_
        refine zr_istore (lv' := [(4, .int r14), (3, .int v12), (0, .ref (zw_ad P 57)), (1, .int x1), (2, .int x2)]) E dX7_whom_57 (by decide) rfl ?_
        refine zr_iconst (v := (-1)) E dX7_whom_59 (by decide) ?_
        refine zr_istore (lv' := [(5, .int ((-1))), (4, .int r14), (3, .int v12), (0, .ref (zw_ad P 57)), (1, .int x1), (2, .int x2)]) E dX7_whom_60 (by decide) rfl ?_
        refine zr_aload_n E dX7_whom_62 3 rfl ?_
        refine zr_iload_n E dX7_whom_63 5 rfl ?_
        obtain ⟨r16, s15, os15, hm⟩ := cl_some hm
        refine zr_cVi (st := []) E mw_772 cm_X7_hoursBehind (c_X7_hoursBehind B.2.1 P s13 x2) os15 (rc_57 P) ⟨by decide, by decide⟩ rfl rfl (Nat.le_of_ble_eq_true rfl) dX7_whom_64 ?_
        refine zr_istore (lv' := [(6, .int r16), (5, .int ((-1))), (4, .int r14), (3, .int v12), (0, .ref (zw_ad P 57)), (1, .int x1), (2, .int x2)]) E dX7_whom_67 (by decide) rfl ?_
        refine zr_iconst (v := 0) E dX7_whom_69 (by decide) ?_
        refine zr_istore (lv' := [(7, .int 0), (6, .int r16), (5, .int ((-1))), (4, .int r14), (3, .int v12), (0, .ref (zw_ad P 57)), (1, .int x1), (2, .int x2)]) E dX7_whom_70 (by decide) rfl ?_
        refine zr_sub (lv' := [(0, .ref (zw_ad P 57)), (1, .int x1), (2, .int x2), (3, .int v12), (4, .int r14), (5, .int ((-1))), (6, .int r16), (7, .int 0)]) [5, 6, 7, 4, 3, 2, 1, 0] rfl ?_
        exact t_X7_whom_72 E hr 200 s15 x1 x2 v12 r14 (-1) r16 0 hm
      · rw [if_neg c11] at hm
        refine zr_aload_n E dX7_whom_35 0 rfl ?_
        refine zr_ldc E mw_394 dX7_whom_36 ?_
        obtain ⟨r18, s17, os17, hm⟩ := cl_some hm
        refine zr_cVi (st := []) E mw_127 cm_X7_finds (c_X7_finds B.2.1 P s9 (-1000005)) os17 (rc_57 P) ⟨by decide, by decide⟩ rfl rfl (Nat.le_of_ble_eq_true rfl) dX7_whom_38 ?_
        exact zr_iret E hr rfl hm dX7_whom_41
    · rw [if_pos c8] at hm
      refine zr_aload_n E dX7_whom_20 0 rfl ?_
      refine zr_ldc E mw_115 dX7_whom_21 ?_
      obtain ⟨r20, s19, os19, hm⟩ := cl_some hm
      refine zr_cVi (st := []) E mw_127 cm_X7_finds (c_X7_finds B.2.1 P s6 (-1000001)) os19 (rc_57 P) ⟨by decide, by decide⟩ rfl rfl (Nat.le_of_ble_eq_true rfl) dX7_whom_23 ?_
      exact zr_iret E hr rfl hm dX7_whom_26
-- X7_seed
set_option maxRecDepth 100000 in
set_option maxHeartbeats 4000000 in
theorem c_X7_seed (l : Launch) (P : zw_P) (σ : zw_S) (x1 : Int32) : zc_i l P yX7_seed cX7_seed 2 .int 1 [.ref (zw_ad P 57), .int x1] σ (m_X7_seed σ x1) := by
  refine zc_i.of (by decide) (Nat.le_of_ble_eq_true rfl) (fun B r τ E hl hr hm => ?_)
  subst hl
  refine zr_sub (lv' := [(0, .ref (zw_ad P 57)), (1, .int x1)]) [0, 1] rfl ?_
  unfold m_X7_seed at hm
  refine zr_aload_n E dX7_seed_0 0 rfl ?_
  refine zr_iconst (v := 1) E dX7_seed_1 (by decide) ?_
  refine zr_iload_n E dX7_seed_2 1 rfl ?_
  obtain ⟨r2, s1, os1, hm⟩ := cl_some hm
  refine zr_cVi (st := []) E mw_123 cm_X7_becomes (c_X7_becomes B.2.1 P σ 1 x1) os1 (rc_57 P) ⟨by decide, by decide⟩ rfl rfl (Nat.le_of_ble_eq_true rfl) dX7_seed_3 ?_
  exact zr_iret E hr rfl hm dX7_seed_6
-- X7_feed
set_option maxRecDepth 100000 in
set_option maxHeartbeats 4000000 in
theorem t_X7_feed_41 {B : zw_B} {P : zw_P} {r : Int32} {τ : zw_S} (E : zf B P cX7_feed RX7 4 1) (hr : B.2.2.2.2.2.2.2.2.1.sig.returnType = some .int) : ∀ (n : Nat) (σ : zw_S) (x1 : Int32) (x3 : Int32), m_X7_feed_41 n σ x1 x3 = some (r, τ) → zw_G B P (zq_i B P r τ) 4 σ 41 [(0, .ref (zw_ad P 57)), (1, .int x1), (3, .int x3)] [] := by
  intro n
  induction n with
  | zero => intro σ x1 x3 hm; cases hm
  | succ n ih =>
    intro σ x1 x3 hm
    unfold m_X7_feed_41 at hm
    refine zr_iload_n E dX7_feed_41 2 rfl ?_
    refine zr_if_lt (tgt := 80) E dX7_feed_42 (by decide) (fun c1 => ?_) (fun c1 => ?_)
    · rw [if_pos c1] at hm
      refine zr_aload_n E dX7_feed_80 0 rfl ?_
      refine fg_X7_229 E dX7_feed_81 ?_
      exact zr_iret E hr rfl hm dX7_feed_84
    · rw [if_neg c1] at hm
      refine zr_aload_n E dX7_feed_45 0 rfl ?_
      refine fg_X7_31 E dX7_feed_46 ?_
      refine zr_aload_n E dX7_feed_49 0 rfl ?_
      refine fg_X7_229 E dX7_feed_50 ?_
      refine zr_iload_n E dX7_feed_53 1 rfl ?_
      refine zr_bipush (v := 8) E dX7_feed_54 (by decide) ?_
      refine zr_iload_n E dX7_feed_56 2 rfl ?_
      refine zr_imul E dX7_feed_57 ?_
      refine zr_ishr E dX7_feed_58 ?_
      refine zr_sipush (v := 255) E dX7_feed_59 (by decide) ?_
      refine zr_iand E dX7_feed_62 ?_
      obtain ⟨hs2, s2, es2, hm⟩ := wt_some hm
      refine zr_iast E ac_65 hs2 es2 dX7_feed_63 ?_
      refine zr_aload_n E dX7_feed_64 0 rfl ?_
      refine zr_dup E dX7_feed_65 rfl ?_
      refine fg_X7_229 E dX7_feed_66 ?_
      refine zr_iconst (v := 1) E dX7_feed_69 (by decide) ?_
      refine zr_iadd E dX7_feed_70 ?_
      obtain ⟨s3, es3, hm⟩ := nm_some hm
      refine fp_X7_229 E es3 dX7_feed_71 ?_
      obtain ⟨v4, ev4, hm⟩ := nm_some hm
      refine zr_iinc (j := 2) (lv' := [(3, .int v4), (0, .ref (zw_ad P 57)), (1, .int x1)]) E dX7_feed_74 rfl ev4 (by decide) rfl ?_
      refine zr_goto (tgt := 41) E dX7_feed_77 (by decide) ?_
      refine zr_sub (lv' := [(0, .ref (zw_ad P 57)), (1, .int x1), (3, .int v4)]) [1, 2, 0] rfl ?_
      exact ih s3 x1 v4 hm
set_option maxRecDepth 100000 in
set_option maxHeartbeats 4000000 in
theorem c_X7_feed (l : Launch) (P : zw_P) (σ : zw_S) (x1 : Int32) (x2 : Int32) : zc_i l P yX7_feed cX7_feed 4 .int 1 [.ref (zw_ad P 57), .int x1, .int x2] σ (m_X7_feed σ x1 x2) := by
  refine zc_i.of (by decide) (Nat.le_of_ble_eq_true rfl) (fun B r τ E hl hr hm => ?_)
  subst hl
  refine zr_sub (lv' := [(0, .ref (zw_ad P 57)), (1, .int x1), (2, .int x2)]) [0, 1, 2] rfl ?_
  unfold m_X7_feed at hm
  refine zr_iload_n E dX7_feed_0 2 rfl ?_
  refine zr_i2l E dX7_feed_1 ?_
  refine zr_lconst (v := 1) E dX7_feed_2 (by decide) ?_
  refine zr_ldc2 E mw_584 dX7_feed_3 ?_
  obtain ⟨r2, s1, os1, hm⟩ := cl_some hm
  refine zr_cSi (st := []) E mw_120 cm_X7_in (c_X7_in B.2.1 P σ x2.toInt64 1 4) os1 ⟨by decide, by decide⟩ rfl rfl (Nat.le_of_ble_eq_true rfl) dX7_feed_6 ?_
  refine zr_if_ne (tgt := 19) E dX7_feed_9 (by decide) (fun c3 => ?_) (fun c3 => ?_)
  · rw [if_neg c3] at hm
    refine zr_aload_n E dX7_feed_19 0 rfl ?_
    refine fg_X7_229 E dX7_feed_20 ?_
    refine zr_iload_n E dX7_feed_23 2 rfl ?_
    refine zr_iadd E dX7_feed_24 ?_
    refine zr_bipush (v := 120) E dX7_feed_25 (by decide) ?_
    refine zr_icmp_le (tgt := 37) E dX7_feed_27 (by decide) (fun c4 => ?_) (fun c4 => ?_)
    · rw [if_pos c4] at hm
      refine zr_iload_n E dX7_feed_37 2 rfl ?_
      refine zr_iconst (v := 1) E dX7_feed_38 (by decide) ?_
      refine zr_isub E dX7_feed_39 ?_
      obtain ⟨v5, ev5, hm⟩ := nm_some hm
      refine zr_top ev5 ?_
      refine zr_istore_n (lv' := [(3, .int v5), (0, .ref (zw_ad P 57)), (1, .int x1), (2, .int x2)]) E dX7_feed_40 (by decide) rfl ?_
      refine zr_sub (lv' := [(0, .ref (zw_ad P 57)), (1, .int x1), (3, .int v5)]) [1, 2, 0] rfl ?_
      exact t_X7_feed_41 E hr 200 s1 x1 v5 hm
    · rw [if_neg c4] at hm
      refine zr_aload_n E dX7_feed_30 0 rfl ?_
      refine zr_ldc E mw_152 dX7_feed_31 ?_
      obtain ⟨r7, s6, os6, hm⟩ := cl_some hm
      refine zr_cVi (st := []) E mw_127 cm_X7_finds (c_X7_finds B.2.1 P s1 (-1000002)) os6 (rc_57 P) ⟨by decide, by decide⟩ rfl rfl (Nat.le_of_ble_eq_true rfl) dX7_feed_33 ?_
      exact zr_iret E hr rfl hm dX7_feed_36
  · rw [if_pos c3] at hm
    refine zr_aload_n E dX7_feed_12 0 rfl ?_
    refine zr_ldc E mw_115 dX7_feed_13 ?_
    obtain ⟨r9, s8, os8, hm⟩ := cl_some hm
    refine zr_cVi (st := []) E mw_127 cm_X7_finds (c_X7_finds B.2.1 P s1 (-1000001)) os8 (rc_57 P) ⟨by decide, by decide⟩ rfl rfl (Nat.le_of_ble_eq_true rfl) dX7_feed_15 ?_
    exact zr_iret E hr rfl hm dX7_feed_18
-- X7_wipe
set_option maxRecDepth 100000 in
set_option maxHeartbeats 4000000 in
theorem c_X7_wipe (l : Launch) (P : zw_P) (σ : zw_S) : zc_i l P yX7_wipe cX7_wipe 2 .int 0 [.ref (zw_ad P 57)] σ (m_X7_wipe σ) := by
  refine zc_i.of (by decide) (Nat.le_of_ble_eq_true rfl) (fun B r τ E hl hr hm => ?_)
  subst hl
  refine zr_sub (lv' := [(0, .ref (zw_ad P 57))]) [0] rfl ?_
  unfold m_X7_wipe at hm
  refine zr_aload_n E dX7_wipe_0 0 rfl ?_
  refine fg_X7_229 E dX7_wipe_1 ?_
  obtain ⟨v1, ev1, hm⟩ := nm_some hm
  refine zr_top ev1 ?_
  refine zr_istore_n (lv' := [(1, .int v1), (0, .ref (zw_ad P 57))]) E dX7_wipe_4 (by decide) rfl ?_
  refine zr_aload_n E dX7_wipe_5 1 rfl ?_
  refine zr_iconst (v := 0) E dX7_wipe_6 (by decide) ?_
  obtain ⟨s2, es2, hm⟩ := nm_some hm
  refine fp_X7_229 E es2 dX7_wipe_7 ?_
  refine zr_iload_n E dX7_wipe_10 0 rfl ?_
  exact zr_iret E hr rfl hm dX7_wipe_11
-- X7_isByte
set_option maxRecDepth 100000 in
set_option maxHeartbeats 4000000 in
theorem c_X7_isByte (l : Launch) (P : zw_P) (σ : zw_S) (x1 : Int32) (x2 : Int32) (x3 : Int32) : zc_i l P yX7_isByte cX7_isByte 4 .boolean 1 [.ref (zw_ad P 57), .int x1, .int x2, .int x3] σ (m_X7_isByte σ x1 x2 x3) := by
  refine zc_i.of (by decide) (Nat.le_of_ble_eq_true rfl) (fun B r τ E hl hr hm => ?_)
  subst hl
  refine zr_sub (lv' := [(0, .ref (zw_ad P 57)), (1, .int x1), (2, .int x2), (3, .int x3)]) [0, 1, 2, 3] rfl ?_
  unfold m_X7_isByte at hm
  refine zr_iload_n E dX7_isByte_0 1 rfl ?_
  refine zr_aload_n E dX7_isByte_1 0 rfl ?_
  refine fg_X7_229 E dX7_isByte_2 ?_
  refine zr_icmp_ge (tgt := 29) E dX7_isByte_5 (by decide) (fun c1 => ?_) (fun c1 => ?_)
  · rw [if_pos c1] at hm
    refine zr_iconst (v := 0) E dX7_isByte_29 (by decide) ?_
    exact zr_iret E hr (by decide) hm dX7_isByte_30
  · rw [if_neg c1] at hm
    refine zr_aload_n E dX7_isByte_8 0 rfl ?_
    refine fg_X7_31 E dX7_isByte_9 ?_
    refine zr_iload_n E dX7_isByte_12 1 rfl ?_
    obtain ⟨hv2, v2, ev2, hm⟩ := rd_some hm
    refine zr_iald E ac_65 hv2 ev2 dX7_isByte_13 ?_
    refine zr_i2l E dX7_isByte_14 ?_
    refine zr_iload_n E dX7_isByte_15 2 rfl ?_
    refine zr_i2l E dX7_isByte_16 ?_
    refine zr_iload_n E dX7_isByte_17 3 rfl ?_
    refine zr_i2l E dX7_isByte_18 ?_
    obtain ⟨r4, s3, os3, hm⟩ := cl_some hm
    refine zr_cSi (st := []) E mw_120 cm_X7_in (c_X7_in B.2.1 P σ v2.toInt64 x2.toInt64 x3.toInt64) os3 ⟨by decide, by decide⟩ rfl rfl (Nat.le_of_ble_eq_true rfl) dX7_isByte_19 ?_
    refine zr_if_eq (tgt := 29) E dX7_isByte_22 (by decide) (fun c5 => ?_) (fun c5 => ?_)
    · rw [if_pos c5] at hm
      refine zr_iconst (v := 0) E dX7_isByte_29 (by decide) ?_
      exact zr_iret E hr (by decide) hm dX7_isByte_30
    · rw [if_neg c5] at hm
      refine zr_iconst (v := 1) E dX7_isByte_25 (by decide) ?_
      refine zr_goto (tgt := 30) E dX7_isByte_26 (by decide) ?_
      exact zr_iret E hr (by decide) hm dX7_isByte_30
-- X7_token
set_option maxRecDepth 100000 in
set_option maxHeartbeats 4000000 in
theorem t_X7_token_161 {B : zw_B} {P : zw_P} {τ : zw_S} (E : zf B P cX7_token RX7 1 2) (hr : B.2.2.2.2.2.2.2.2.1.sig.returnType = none) : ∀ (n : Nat) (σ : zw_S), m_X7_token_161 n σ = some τ → zw_G B P (zq_v B P τ) 1 σ 161 [(0, .ref (zw_ad P 57))] [] := by
  intro n
  induction n with
  | zero => intro σ hm; cases hm
  | succ n ih =>
    intro σ hm
    unfold m_X7_token_161 at hm
    refine zr_aload_n E dX7_token_161 0 rfl ?_
    refine fg_X7_246 E dX7_token_162 ?_
    refine zr_iconst (v := 2) E dX7_token_165 (by decide) ?_
    refine zr_icmp_ne (tgt := 238) E dX7_token_166 (by decide) (fun c1 => ?_) (fun c1 => ?_)
    · rw [if_neg c1] at hm
      exact zr_vret E hr hm dX7_token_238
    · rw [if_pos c1] at hm
      refine zr_aload_n E dX7_token_169 0 rfl ?_
      refine zr_aload_n E dX7_token_170 0 rfl ?_
      refine fg_X7_233 E dX7_token_171 ?_
      refine zr_bipush (v := 48) E dX7_token_174 (by decide) ?_
      refine zr_bipush (v := 57) E dX7_token_176 (by decide) ?_
      obtain ⟨r3, s2, os2, hm⟩ := cl_some hm
      refine zr_cVi (st := []) E mw_952 cm_X7_isByte (c_X7_isByte B.2.1 P σ (σ 57 12) 48 57) os2 (rc_57 P) ⟨by decide, by decide⟩ rfl rfl (Nat.le_of_ble_eq_true rfl) dX7_token_178 ?_
      refine zr_if_eq (tgt := 238) E dX7_token_181 (by decide) (fun c4 => ?_) (fun c4 => ?_)
      · rw [if_pos c4] at hm
        exact zr_vret E hr hm dX7_token_238
      · rw [if_neg c4] at hm
        refine zr_aload_n E dX7_token_184 0 rfl ?_
        refine zr_aload_n E dX7_token_185 0 rfl ?_
        refine fg_X7_243 E dX7_token_186 ?_
        refine zr_sipush (v := 9999) E dX7_token_189 (by decide) ?_
        refine zr_icmp_le (tgt := 202) E dX7_token_192 (by decide) (fun c5 => ?_) (fun c5 => ?_)
        · rw [if_pos c5] at hm
          refine zr_bipush (v := 10) E dX7_token_202 (by decide) ?_
          refine zr_aload_n E dX7_token_204 0 rfl ?_
          refine fg_X7_243 E dX7_token_205 ?_
          refine zr_imul E dX7_token_208 ?_
          refine zr_aload_n E dX7_token_209 0 rfl ?_
          refine fg_X7_31 E dX7_token_210 ?_
          refine zr_aload_n E dX7_token_213 0 rfl ?_
          refine fg_X7_233 E dX7_token_214 ?_
          obtain ⟨hv6, v6, ev6, hm⟩ := rd_some hm
          refine zr_iald E ac_65 hv6 ev6 dX7_token_217 ?_
          refine zr_iadd E dX7_token_218 ?_
          refine zr_bipush (v := 48) E dX7_token_219 (by decide) ?_
          refine zr_isub E dX7_token_221 ?_
          obtain ⟨s7, es7, hm⟩ := nm_some hm
          refine fp_X7_243 E es7 dX7_token_222 ?_
          refine zr_aload_n E dX7_token_225 0 rfl ?_
          refine zr_dup E dX7_token_226 rfl ?_
          refine fg_X7_233 E dX7_token_227 ?_
          refine zr_iconst (v := 1) E dX7_token_230 (by decide) ?_
          refine zr_iadd E dX7_token_231 ?_
          obtain ⟨s8, es8, hm⟩ := nm_some hm
          refine fp_X7_233 E es8 dX7_token_232 ?_
          refine zr_goto (tgt := 161) E dX7_token_235 (by decide) ?_
          refine zr_sub (lv' := [(0, .ref (zw_ad P 57))]) [0] rfl ?_
          exact ih s8 hm
        · rw [if_neg c5] at hm
          refine zr_aload_n E dX7_token_195 0 rfl ?_
          refine fg_X7_243 E dX7_token_196 ?_
          refine zr_goto (tgt := 222) E dX7_token_199 (by decide) ?_
          obtain ⟨s9, es9, hm⟩ := nm_some hm
          refine fp_X7_243 E es9 dX7_token_222 ?_
          refine zr_aload_n E dX7_token_225 0 rfl ?_
          refine zr_dup E dX7_token_226 rfl ?_
          refine fg_X7_233 E dX7_token_227 ?_
          refine zr_iconst (v := 1) E dX7_token_230 (by decide) ?_
          refine zr_iadd E dX7_token_231 ?_
          obtain ⟨s10, es10, hm⟩ := nm_some hm
          refine fp_X7_233 E es10 dX7_token_232 ?_
          refine zr_goto (tgt := 161) E dX7_token_235 (by decide) ?_
          refine zr_sub (lv' := [(0, .ref (zw_ad P 57))]) [0] rfl ?_
          exact ih s10 hm
set_option maxRecDepth 100000 in
set_option maxHeartbeats 4000000 in
theorem t_X7_token_125 {B : zw_B} {P : zw_P} {τ : zw_S} (E : zf B P cX7_token RX7 1 2) (hr : B.2.2.2.2.2.2.2.2.1.sig.returnType = none) : ∀ (n : Nat) (σ : zw_S), m_X7_token_125 n σ = some τ → zw_G B P (zq_v B P τ) 1 σ 125 [(0, .ref (zw_ad P 57))] [] := by
  intro n
  induction n with
  | zero => intro σ hm; cases hm
  | succ n ih =>
    intro σ hm
    unfold m_X7_token_125 at hm
    refine zr_aload_n E dX7_token_125 0 rfl ?_
    refine fg_X7_246 E dX7_token_126 ?_
    refine zr_iconst (v := 1) E dX7_token_129 (by decide) ?_
    refine zr_icmp_ne (tgt := 161) E dX7_token_130 (by decide) (fun c1 => ?_) (fun c1 => ?_)
    · rw [if_neg c1] at hm
      refine zr_sub (lv' := [(0, .ref (zw_ad P 57))]) [0] rfl ?_
      exact t_X7_token_161 E hr 200 σ hm
    · rw [if_pos c1] at hm
      refine zr_aload_n E dX7_token_133 0 rfl ?_
      refine zr_aload_n E dX7_token_134 0 rfl ?_
      refine fg_X7_233 E dX7_token_135 ?_
      refine zr_bipush (v := 97) E dX7_token_138 (by decide) ?_
      refine zr_bipush (v := 122) E dX7_token_140 (by decide) ?_
      obtain ⟨r3, s2, os2, hm⟩ := cl_some hm
      refine zr_cVi (st := []) E mw_952 cm_X7_isByte (c_X7_isByte B.2.1 P σ (σ 57 12) 97 122) os2 (rc_57 P) ⟨by decide, by decide⟩ rfl rfl (Nat.le_of_ble_eq_true rfl) dX7_token_142 ?_
      refine zr_if_eq (tgt := 161) E dX7_token_145 (by decide) (fun c4 => ?_) (fun c4 => ?_)
      · rw [if_pos c4] at hm
        refine zr_sub (lv' := [(0, .ref (zw_ad P 57))]) [0] rfl ?_
        exact t_X7_token_161 E hr 200 s2 hm
      · rw [if_neg c4] at hm
        refine zr_aload_n E dX7_token_148 0 rfl ?_
        refine zr_dup E dX7_token_149 rfl ?_
        refine fg_X7_233 E dX7_token_150 ?_
        refine zr_iconst (v := 1) E dX7_token_153 (by decide) ?_
        refine zr_iadd E dX7_token_154 ?_
        obtain ⟨s5, es5, hm⟩ := nm_some hm
        refine fp_X7_233 E es5 dX7_token_155 ?_
        refine zr_goto (tgt := 125) E dX7_token_158 (by decide) ?_
        refine zr_sub (lv' := [(0, .ref (zw_ad P 57))]) [0] rfl ?_
        exact ih s5 hm
set_option maxRecDepth 100000 in
set_option maxHeartbeats 4000000 in
theorem t_X7_token_104 {B : zw_B} {P : zw_P} {τ : zw_S} (E : zf B P cX7_token RX7 1 2) (hr : B.2.2.2.2.2.2.2.2.1.sig.returnType = none) (σ : zw_S) (y0 : Int32) (hm : m_X7_token_104 σ y0 = some τ) : zw_G B P (zq_v B P τ) 1 σ 104 [(0, .ref (zw_ad P 57))] [.int y0, .ref (zw_ad P 57)] := by
  unfold m_X7_token_104 at hm
  obtain ⟨s1, es1, hm⟩ := nm_some hm
  refine fp_X7_246 E es1 dX7_token_104 ?_
  refine zr_aload_n E dX7_token_107 0 rfl ?_
  refine fg_X7_246 E dX7_token_108 ?_
  refine zr_iconst (v := 3) E dX7_token_111 (by decide) ?_
  refine zr_icmp_ne (tgt := 125) E dX7_token_112 (by decide) (fun c2 => ?_) (fun c2 => ?_)
  · rw [if_neg c2] at hm
    refine zr_sub (lv' := [(0, .ref (zw_ad P 57))]) [0] rfl ?_
    exact t_X7_token_125 E hr 200 s1 hm
  · rw [if_pos c2] at hm
    refine zr_aload_n E dX7_token_115 0 rfl ?_
    refine zr_dup E dX7_token_116 rfl ?_
    refine fg_X7_233 E dX7_token_117 ?_
    refine zr_iconst (v := 1) E dX7_token_120 (by decide) ?_
    refine zr_iadd E dX7_token_121 ?_
    obtain ⟨s3, es3, hm⟩ := nm_some hm
    refine fp_X7_233 E es3 dX7_token_122 ?_
    refine zr_sub (lv' := [(0, .ref (zw_ad P 57))]) [0] rfl ?_
    exact t_X7_token_125 E hr 200 s3 hm
set_option maxRecDepth 100000 in
set_option maxHeartbeats 4000000 in
theorem t_X7_token_36 {B : zw_B} {P : zw_P} {τ : zw_S} (E : zf B P cX7_token RX7 1 2) (hr : B.2.2.2.2.2.2.2.2.1.sig.returnType = none) (σ : zw_S) (hm : m_X7_token_36 σ = some τ) : zw_G B P (zq_v B P τ) 1 σ 36 [(0, .ref (zw_ad P 57))] [] := by
  unfold m_X7_token_36 at hm
  refine zr_aload_n E dX7_token_36 0 rfl ?_
  refine zr_aload_n E dX7_token_37 0 rfl ?_
  refine fg_X7_236 E dX7_token_38 ?_
  obtain ⟨s1, es1, hm⟩ := nm_some hm
  refine fp_X7_233 E es1 dX7_token_41 ?_
  refine zr_aload_n E dX7_token_44 0 rfl ?_
  refine zr_iconst (v := 0) E dX7_token_45 (by decide) ?_
  obtain ⟨s2, es2, hm⟩ := nm_some hm
  refine fp_X7_243 E es2 dX7_token_46 ?_
  refine zr_aload_n E dX7_token_49 0 rfl ?_
  refine zr_aload_n E dX7_token_50 0 rfl ?_
  refine fg_X7_236 E dX7_token_51 ?_
  refine zr_aload_n E dX7_token_54 0 rfl ?_
  refine fg_X7_229 E dX7_token_55 ?_
  refine zr_icmp_ne (tgt := 65) E dX7_token_58 (by decide) (fun c3 => ?_) (fun c3 => ?_)
  · rw [if_neg c3] at hm
    refine zr_aload_n E dX7_token_65 0 rfl ?_
    refine zr_aload_n E dX7_token_66 0 rfl ?_
    refine fg_X7_236 E dX7_token_67 ?_
    refine zr_bipush (v := 97) E dX7_token_70 (by decide) ?_
    refine zr_bipush (v := 122) E dX7_token_72 (by decide) ?_
    obtain ⟨r5, s4, os4, hm⟩ := cl_some hm
    refine zr_cVi (st := [.ref (zw_ad P 57)]) E mw_952 cm_X7_isByte (c_X7_isByte B.2.1 P s2 (s2 57 11) 97 122) os4 (rc_57 P) ⟨by decide, by decide⟩ rfl rfl (Nat.le_of_ble_eq_true rfl) dX7_token_74 ?_
    refine zr_if_eq (tgt := 84) E dX7_token_77 (by decide) (fun c6 => ?_) (fun c6 => ?_)
    · rw [if_pos c6] at hm
      refine zr_aload_n E dX7_token_84 0 rfl ?_
      refine zr_aload_n E dX7_token_85 0 rfl ?_
      refine fg_X7_236 E dX7_token_86 ?_
      refine zr_bipush (v := 48) E dX7_token_89 (by decide) ?_
      refine zr_bipush (v := 57) E dX7_token_91 (by decide) ?_
      obtain ⟨r8, s7, os7, hm⟩ := cl_some hm
      refine zr_cVi (st := [.ref (zw_ad P 57)]) E mw_952 cm_X7_isByte (c_X7_isByte B.2.1 P s4 (s4 57 11) 48 57) os7 (rc_57 P) ⟨by decide, by decide⟩ rfl rfl (Nat.le_of_ble_eq_true rfl) dX7_token_93 ?_
      refine zr_if_eq (tgt := 103) E dX7_token_96 (by decide) (fun c9 => ?_) (fun c9 => ?_)
      · rw [if_pos c9] at hm
        refine zr_iconst (v := 3) E dX7_token_103 (by decide) ?_
        refine zr_sub (lv' := [(0, .ref (zw_ad P 57))]) [0] rfl ?_
        exact t_X7_token_104 E hr s7 3 hm
      · rw [if_neg c9] at hm
        refine zr_iconst (v := 2) E dX7_token_99 (by decide) ?_
        refine zr_goto (tgt := 104) E dX7_token_100 (by decide) ?_
        refine zr_sub (lv' := [(0, .ref (zw_ad P 57))]) [0] rfl ?_
        exact t_X7_token_104 E hr s7 2 hm
    · rw [if_neg c6] at hm
      refine zr_iconst (v := 1) E dX7_token_80 (by decide) ?_
      refine zr_goto (tgt := 104) E dX7_token_81 (by decide) ?_
      refine zr_sub (lv' := [(0, .ref (zw_ad P 57))]) [0] rfl ?_
      exact t_X7_token_104 E hr s4 1 hm
  · rw [if_pos c3] at hm
    refine zr_iconst (v := 0) E dX7_token_61 (by decide) ?_
    refine zr_goto (tgt := 104) E dX7_token_62 (by decide) ?_
    refine zr_sub (lv' := [(0, .ref (zw_ad P 57))]) [0] rfl ?_
    exact t_X7_token_104 E hr s2 0 hm
set_option maxRecDepth 100000 in
set_option maxHeartbeats 4000000 in
theorem t_X7_token_8 {B : zw_B} {P : zw_P} {τ : zw_S} (E : zf B P cX7_token RX7 1 2) (hr : B.2.2.2.2.2.2.2.2.1.sig.returnType = none) : ∀ (n : Nat) (σ : zw_S), m_X7_token_8 n σ = some τ → zw_G B P (zq_v B P τ) 1 σ 8 [(0, .ref (zw_ad P 57))] [] := by
  intro n
  induction n with
  | zero => intro σ hm; cases hm
  | succ n ih =>
    intro σ hm
    unfold m_X7_token_8 at hm
    refine zr_aload_n E dX7_token_8 0 rfl ?_
    refine zr_aload_n E dX7_token_9 0 rfl ?_
    refine fg_X7_236 E dX7_token_10 ?_
    refine zr_bipush (v := 32) E dX7_token_13 (by decide) ?_
    refine zr_bipush (v := 32) E dX7_token_15 (by decide) ?_
    obtain ⟨r2, s1, os1, hm⟩ := cl_some hm
    refine zr_cVi (st := []) E mw_952 cm_X7_isByte (c_X7_isByte B.2.1 P σ (σ 57 11) 32 32) os1 (rc_57 P) ⟨by decide, by decide⟩ rfl rfl (Nat.le_of_ble_eq_true rfl) dX7_token_17 ?_
    refine zr_if_eq (tgt := 36) E dX7_token_20 (by decide) (fun c3 => ?_) (fun c3 => ?_)
    · rw [if_pos c3] at hm
      refine zr_sub (lv' := [(0, .ref (zw_ad P 57))]) [0] rfl ?_
      exact t_X7_token_36 E hr s1 hm
    · rw [if_neg c3] at hm
      refine zr_aload_n E dX7_token_23 0 rfl ?_
      refine zr_dup E dX7_token_24 rfl ?_
      refine fg_X7_236 E dX7_token_25 ?_
      refine zr_iconst (v := 1) E dX7_token_28 (by decide) ?_
      refine zr_iadd E dX7_token_29 ?_
      obtain ⟨s4, es4, hm⟩ := nm_some hm
      refine fp_X7_236 E es4 dX7_token_30 ?_
      refine zr_goto (tgt := 8) E dX7_token_33 (by decide) ?_
      refine zr_sub (lv' := [(0, .ref (zw_ad P 57))]) [0] rfl ?_
      exact ih s4 hm
set_option maxRecDepth 100000 in
set_option maxHeartbeats 4000000 in
theorem c_X7_token (l : Launch) (P : zw_P) (σ : zw_S) : zc_v l P yX7_token cX7_token 1 2 [.ref (zw_ad P 57)] σ (m_X7_token σ) := by
  refine zc_v.of (by decide) (Nat.le_of_ble_eq_true rfl) (fun B τ E hl hr hm => ?_)
  subst hl
  refine zr_sub (lv' := [(0, .ref (zw_ad P 57))]) [0] rfl ?_
  unfold m_X7_token at hm
  refine zr_aload_n E dX7_token_0 0 rfl ?_
  refine zr_aload_n E dX7_token_1 0 rfl ?_
  refine fg_X7_233 E dX7_token_2 ?_
  obtain ⟨s1, es1, hm⟩ := nm_some hm
  refine fp_X7_236 E es1 dX7_token_5 ?_
  refine zr_sub (lv' := [(0, .ref (zw_ad P 57))]) [0] rfl ?_
  exact t_X7_token_8 E hr 200 s1 hm
-- X7_isWord
set_option maxRecDepth 100000 in
set_option maxHeartbeats 4000000 in
theorem t_X7_isWord_39 {B : zw_B} {P : zw_P} {r : Int32} {τ : zw_S} (b1 : Nat) (hb1 : b1 < 15) (E : zf B P cX7_isWord RX7 4 4) (hr : B.2.2.2.2.2.2.2.2.1.sig.returnType = some .boolean) : ∀ (n : Nat) (σ : zw_S) (x2 : Int32) (x3 : Int32), m_X7_isWord_39 b1 n σ x2 x3 = some (r, τ) → zw_G B P (zq_i B P r τ) 4 σ 39 [(0, .ref (zw_ad P 57)), (1, .ref (zw_aK P b1)), (2, .int x2), (3, .int x3)] [] := by
  intro n
  induction n with
  | zero => intro σ x2 x3 hm; cases hm
  | succ n ih =>
    intro σ x2 x3 hm
    unfold m_X7_isWord_39 at hm
    refine zr_iload_n E dX7_isWord_39 2 rfl ?_
    refine zr_if_eq (tgt := 82) E dX7_isWord_40 (by decide) (fun c1 => ?_) (fun c1 => ?_)
    · rw [if_pos c1] at hm
      refine zr_iload_n E dX7_isWord_82 2 rfl ?_
      obtain ⟨hz2, hm⟩ := tt_some hm
      exact zr_iret E hr (zz_nar (zz_some hz2)) hm dX7_isWord_83
    · rw [if_neg c1] at hm
      refine zr_iload_n E dX7_isWord_43 3 rfl ?_
      refine zr_aload_n E dX7_isWord_44 1 rfl ?_
      refine zr_slen (h := 3) (by decide) E hb1 mw_968 (Nat.le_of_ble_eq_true rfl) dX7_isWord_45 ?_
      refine zr_icmp_ge (tgt := 82) E dX7_isWord_48 (by decide) (fun c3 => ?_) (fun c3 => ?_)
      · rw [if_pos c3] at hm
        refine zr_iload_n E dX7_isWord_82 2 rfl ?_
        obtain ⟨hz4, hm⟩ := tt_some hm
        exact zr_iret E hr (zz_nar (zz_some hz4)) hm dX7_isWord_83
      · rw [if_neg c3] at hm
        refine zr_aload_n E dX7_isWord_51 0 rfl ?_
        refine fg_X7_31 E dX7_isWord_52 ?_
        refine zr_aload_n E dX7_isWord_55 0 rfl ?_
        refine fg_X7_236 E dX7_isWord_56 ?_
        refine zr_iload_n E dX7_isWord_59 3 rfl ?_
        refine zr_iadd E dX7_isWord_60 ?_
        obtain ⟨hv5, v5, ev5, hm⟩ := rd_some hm
        refine zr_iald E ac_65 hv5 ev5 dX7_isWord_61 ?_
        refine zr_aload_n E dX7_isWord_62 1 rfl ?_
        refine zr_iload_n E dX7_isWord_63 3 rfl ?_
        obtain ⟨hz6, hm⟩ := tt_some hm
        refine zr_schar (h := 3) (by decide) E hb1 mw_969 (zi_in hz6) (Nat.le_of_ble_eq_true rfl) dX7_isWord_64 ?_
        refine zr_icmp_ne (tgt := 74) E dX7_isWord_67 (by decide) (fun c7 => ?_) (fun c7 => ?_)
        · rw [if_neg c7] at hm
          refine zr_iconst (v := 0) E dX7_isWord_74 (by decide) ?_
          refine zr_istore_n (lv' := [(2, .int 0), (0, .ref (zw_ad P 57)), (1, .ref (zw_aK P b1)), (3, .int x3)]) E dX7_isWord_75 (by decide) rfl ?_
          obtain ⟨v8, ev8, hm⟩ := nm_some hm
          refine zr_iinc (j := 3) (lv' := [(3, .int v8), (2, .int 0), (0, .ref (zw_ad P 57)), (1, .ref (zw_aK P b1))]) E dX7_isWord_76 rfl ev8 (by decide) rfl ?_
          refine zr_goto (tgt := 39) E dX7_isWord_79 (by decide) ?_
          refine zr_sub (lv' := [(0, .ref (zw_ad P 57)), (1, .ref (zw_aK P b1)), (2, .int 0), (3, .int v8)]) [2, 3, 1, 0] rfl ?_
          exact ih σ 0 v8 hm
        · rw [if_pos c7] at hm
          refine zr_iconst (v := 1) E dX7_isWord_70 (by decide) ?_
          refine zr_goto (tgt := 75) E dX7_isWord_71 (by decide) ?_
          refine zr_istore_n (lv' := [(2, .int 1), (0, .ref (zw_ad P 57)), (1, .ref (zw_aK P b1)), (3, .int x3)]) E dX7_isWord_75 (by decide) rfl ?_
          obtain ⟨v9, ev9, hm⟩ := nm_some hm
          refine zr_iinc (j := 3) (lv' := [(3, .int v9), (2, .int 1), (0, .ref (zw_ad P 57)), (1, .ref (zw_aK P b1))]) E dX7_isWord_76 rfl ev9 (by decide) rfl ?_
          refine zr_goto (tgt := 39) E dX7_isWord_79 (by decide) ?_
          refine zr_sub (lv' := [(0, .ref (zw_ad P 57)), (1, .ref (zw_aK P b1)), (2, .int 1), (3, .int v9)]) [2, 3, 1, 0] rfl ?_
          exact ih σ 1 v9 hm
set_option maxRecDepth 100000 in
set_option maxHeartbeats 4000000 in
theorem c_X7_isWord (l : Launch) (P : zw_P) (b1 : Nat) (hb1 : b1 < 15) (σ : zw_S) : zc_i l P yX7_isWord cX7_isWord 4 .boolean 4 [.ref (zw_ad P 57), .ref (zw_aK P b1)] σ (m_X7_isWord b1 σ) := by
  refine zc_i.of (by decide) (Nat.le_of_ble_eq_true rfl) (fun B r τ E hl hr hm => ?_)
  subst hl
  refine zr_sub (lv' := [(0, .ref (zw_ad P 57)), (1, .ref (zw_aK P b1))]) [0, 1] rfl ?_
  unfold m_X7_isWord at hm
  refine zr_aload_n E dX7_isWord_0 0 rfl ?_
  refine fg_X7_249 E dX7_isWord_1 ?_
  refine zr_if_ne (tgt := 35) E dX7_isWord_4 (by decide) (fun c1 => ?_) (fun c1 => ?_)
  · rw [if_neg c1] at hm
    refine zr_iconst (v := 0) E dX7_isWord_35 (by decide) ?_
    refine zr_istore_n (lv' := [(2, .int 0), (0, .ref (zw_ad P 57)), (1, .ref (zw_aK P b1))]) E dX7_isWord_36 (by decide) rfl ?_
    refine zr_iconst (v := 0) E dX7_isWord_37 (by decide) ?_
    refine zr_istore_n (lv' := [(3, .int 0), (2, .int 0), (0, .ref (zw_ad P 57)), (1, .ref (zw_aK P b1))]) E dX7_isWord_38 (by decide) rfl ?_
    refine zr_sub (lv' := [(0, .ref (zw_ad P 57)), (1, .ref (zw_aK P b1)), (2, .int 0), (3, .int 0)]) [2, 3, 1, 0] rfl ?_
    exact t_X7_isWord_39 b1 hb1 E hr 200 σ 0 0 hm
  · rw [if_pos c1] at hm
    refine zr_aload_n E dX7_isWord_7 0 rfl ?_
    refine fg_X7_246 E dX7_isWord_8 ?_
    refine zr_iconst (v := 1) E dX7_isWord_11 (by decide) ?_
    refine zr_icmp_ne (tgt := 35) E dX7_isWord_12 (by decide) (fun c2 => ?_) (fun c2 => ?_)
    · rw [if_neg c2] at hm
      refine zr_iconst (v := 0) E dX7_isWord_35 (by decide) ?_
      refine zr_istore_n (lv' := [(2, .int 0), (0, .ref (zw_ad P 57)), (1, .ref (zw_aK P b1))]) E dX7_isWord_36 (by decide) rfl ?_
      refine zr_iconst (v := 0) E dX7_isWord_37 (by decide) ?_
      refine zr_istore_n (lv' := [(3, .int 0), (2, .int 0), (0, .ref (zw_ad P 57)), (1, .ref (zw_aK P b1))]) E dX7_isWord_38 (by decide) rfl ?_
      refine zr_sub (lv' := [(0, .ref (zw_ad P 57)), (1, .ref (zw_aK P b1)), (2, .int 0), (3, .int 0)]) [2, 3, 1, 0] rfl ?_
      exact t_X7_isWord_39 b1 hb1 E hr 200 σ 0 0 hm
    · rw [if_pos c2] at hm
      refine zr_aload_n E dX7_isWord_15 0 rfl ?_
      refine fg_X7_233 E dX7_isWord_16 ?_
      refine zr_aload_n E dX7_isWord_19 0 rfl ?_
      refine fg_X7_236 E dX7_isWord_20 ?_
      refine zr_isub E dX7_isWord_23 ?_
      refine zr_aload_n E dX7_isWord_24 1 rfl ?_
      refine zr_slen (h := 3) (by decide) E hb1 mw_968 (Nat.le_of_ble_eq_true rfl) dX7_isWord_25 ?_
      refine zr_icmp_ne (tgt := 35) E dX7_isWord_28 (by decide) (fun c3 => ?_) (fun c3 => ?_)
      · rw [if_neg c3] at hm
        refine zr_iconst (v := 0) E dX7_isWord_35 (by decide) ?_
        refine zr_istore_n (lv' := [(2, .int 0), (0, .ref (zw_ad P 57)), (1, .ref (zw_aK P b1))]) E dX7_isWord_36 (by decide) rfl ?_
        refine zr_iconst (v := 0) E dX7_isWord_37 (by decide) ?_
        refine zr_istore_n (lv' := [(3, .int 0), (2, .int 0), (0, .ref (zw_ad P 57)), (1, .ref (zw_aK P b1))]) E dX7_isWord_38 (by decide) rfl ?_
        refine zr_sub (lv' := [(0, .ref (zw_ad P 57)), (1, .ref (zw_aK P b1)), (2, .int 0), (3, .int 0)]) [2, 3, 1, 0] rfl ?_
        exact t_X7_isWord_39 b1 hb1 E hr 200 σ 0 0 hm
      · rw [if_pos c3] at hm
        refine zr_iconst (v := 1) E dX7_isWord_31 (by decide) ?_
        refine zr_goto (tgt := 36) E dX7_isWord_32 (by decide) ?_
        refine zr_istore_n (lv' := [(2, .int 1), (0, .ref (zw_ad P 57)), (1, .ref (zw_aK P b1))]) E dX7_isWord_36 (by decide) rfl ?_
        refine zr_iconst (v := 0) E dX7_isWord_37 (by decide) ?_
        refine zr_istore_n (lv' := [(3, .int 0), (2, .int 1), (0, .ref (zw_ad P 57)), (1, .ref (zw_aK P b1))]) E dX7_isWord_38 (by decide) rfl ?_
        refine zr_sub (lv' := [(0, .ref (zw_ad P 57)), (1, .ref (zw_aK P b1)), (2, .int 1), (3, .int 0)]) [2, 3, 1, 0] rfl ?_
        exact t_X7_isWord_39 b1 hb1 E hr 200 σ 1 0 hm
-- X7_takes
set_option maxRecDepth 100000 in
set_option maxHeartbeats 4000000 in
theorem c_X7_takes (l : Launch) (P : zw_P) (b1 : Nat) (hb1 : b1 < 15) (σ : zw_S) : zc_i l P yX7_takes cX7_takes 2 .boolean 5 [.ref (zw_ad P 57), .ref (zw_aK P b1)] σ (m_X7_takes b1 σ) := by
  refine zc_i.of (by decide) (Nat.le_of_ble_eq_true rfl) (fun B r τ E hl hr hm => ?_)
  subst hl
  refine zr_sub (lv' := [(0, .ref (zw_ad P 57)), (1, .ref (zw_aK P b1))]) [0, 1] rfl ?_
  unfold m_X7_takes at hm
  refine zr_aload_n E dX7_takes_0 0 rfl ?_
  refine zr_aload_n E dX7_takes_1 1 rfl ?_
  obtain ⟨r2, s1, os1, hm⟩ := cl_some hm
  refine zr_cVi (st := []) E mw_964 cm_X7_isWord (c_X7_isWord B.2.1 P b1 hb1 σ) os1 (rc_57 P) ⟨by decide, by decide⟩ rfl rfl (Nat.le_of_ble_eq_true rfl) dX7_takes_2 ?_
  refine zr_if_ne (tgt := 10) E dX7_takes_5 (by decide) (fun c3 => ?_) (fun c3 => ?_)
  · rw [if_neg c3] at hm
    refine zr_aload_n E dX7_takes_10 0 rfl ?_
    obtain ⟨s4, os4, hm⟩ := cv_some hm
    refine zr_cVv (st := []) E mw_947 cm_X7_token (c_X7_token B.2.1 P s1) os4 (rc_57 P) ⟨by decide, by decide⟩ rfl rfl (Nat.le_of_ble_eq_true rfl) dX7_takes_11 ?_
    refine zr_iconst (v := 1) E dX7_takes_14 (by decide) ?_
    exact zr_iret E hr (by decide) hm dX7_takes_15
  · rw [if_pos c3] at hm
    refine zr_iconst (v := 0) E dX7_takes_8 (by decide) ?_
    exact zr_iret E hr (by decide) hm dX7_takes_9
-- X7_isSign
set_option maxRecDepth 100000 in
set_option maxHeartbeats 4000000 in
theorem c_X7_isSign (l : Launch) (P : zw_P) (σ : zw_S) (x1 : Int32) : zc_i l P yX7_isSign cX7_isSign 2 .boolean 0 [.ref (zw_ad P 57), .int x1] σ (m_X7_isSign σ x1) := by
  refine zc_i.of (by decide) (Nat.le_of_ble_eq_true rfl) (fun B r τ E hl hr hm => ?_)
  subst hl
  refine zr_sub (lv' := [(0, .ref (zw_ad P 57)), (1, .int x1)]) [0, 1] rfl ?_
  unfold m_X7_isSign at hm
  refine zr_aload_n E dX7_isSign_0 0 rfl ?_
  refine fg_X7_249 E dX7_isSign_1 ?_
  refine zr_if_ne (tgt := 32) E dX7_isSign_4 (by decide) (fun c1 => ?_) (fun c1 => ?_)
  · rw [if_neg c1] at hm
    refine zr_iconst (v := 0) E dX7_isSign_32 (by decide) ?_
    exact zr_iret E hr (by decide) hm dX7_isSign_33
  · rw [if_pos c1] at hm
    refine zr_aload_n E dX7_isSign_7 0 rfl ?_
    refine fg_X7_246 E dX7_isSign_8 ?_
    refine zr_iconst (v := 3) E dX7_isSign_11 (by decide) ?_
    refine zr_icmp_ne (tgt := 32) E dX7_isSign_12 (by decide) (fun c2 => ?_) (fun c2 => ?_)
    · rw [if_neg c2] at hm
      refine zr_iconst (v := 0) E dX7_isSign_32 (by decide) ?_
      exact zr_iret E hr (by decide) hm dX7_isSign_33
    · rw [if_pos c2] at hm
      refine zr_aload_n E dX7_isSign_15 0 rfl ?_
      refine fg_X7_31 E dX7_isSign_16 ?_
      refine zr_aload_n E dX7_isSign_19 0 rfl ?_
      refine fg_X7_236 E dX7_isSign_20 ?_
      obtain ⟨hv3, v3, ev3, hm⟩ := rd_some hm
      refine zr_iald E ac_65 hv3 ev3 dX7_isSign_23 ?_
      refine zr_iload_n E dX7_isSign_24 1 rfl ?_
      refine zr_icmp_ne (tgt := 32) E dX7_isSign_25 (by decide) (fun c4 => ?_) (fun c4 => ?_)
      · rw [if_neg c4] at hm
        refine zr_iconst (v := 0) E dX7_isSign_32 (by decide) ?_
        exact zr_iret E hr (by decide) hm dX7_isSign_33
      · rw [if_pos c4] at hm
        refine zr_iconst (v := 1) E dX7_isSign_28 (by decide) ?_
        refine zr_goto (tgt := 33) E dX7_isSign_29 (by decide) ?_
        exact zr_iret E hr (by decide) hm dX7_isSign_33
-- X7_number
set_option maxRecDepth 100000 in
set_option maxHeartbeats 4000000 in
theorem t_X7_number_40 {B : zw_B} {P : zw_P} {r : Int32} {τ : zw_S} (E : zf B P cX7_number RX7 5 3) (hr : B.2.2.2.2.2.2.2.2.1.sig.returnType = some .int) (σ : zw_S) (y0 : Int32) (hm : m_X7_number_40 σ y0 = some (r, τ)) : zw_G B P (zq_i B P r τ) 5 σ 40 [(0, .ref (zw_ad P 57))] [.int y0, .ref (zw_ad P 57)] := by
  unfold m_X7_number_40 at hm
  obtain ⟨hz1, hm⟩ := tt_some hm
  obtain ⟨s2, es2, hm⟩ := nm_some hm
  refine fp_X7_249 (zz_some hz1) E es2 dX7_number_40 ?_
  refine zr_aload_n E dX7_number_43 0 rfl ?_
  refine fg_X7_243 E dX7_number_44 ?_
  obtain ⟨v3, ev3, hm⟩ := nm_some hm
  refine zr_top ev3 ?_
  refine zr_istore (lv' := [(4, .int v3), (0, .ref (zw_ad P 57))]) E dX7_number_47 (by decide) rfl ?_
  refine zr_aload_n E dX7_number_49 1 rfl ?_
  refine fg_X7_249 E dX7_number_50 ?_
  refine zr_if_ne (tgt := 60) E dX7_number_53 (by decide) (fun c4 => ?_) (fun c4 => ?_)
  · rw [if_neg c4] at hm
    refine zr_iload E dX7_number_60 0 rfl ?_
    exact zr_iret E hr rfl hm dX7_number_62
  · rw [if_pos c4] at hm
    refine zr_aload_n E dX7_number_56 1 rfl ?_
    obtain ⟨s5, os5, hm⟩ := cv_some hm
    refine zr_cVv (st := []) E mw_947 cm_X7_token (c_X7_token B.2.1 P s2) os5 (rc_57 P) ⟨by decide, by decide⟩ rfl rfl (Nat.le_of_ble_eq_true rfl) dX7_number_57 ?_
    refine zr_iload E dX7_number_60 0 rfl ?_
    exact zr_iret E hr rfl hm dX7_number_62
set_option maxRecDepth 100000 in
set_option maxHeartbeats 4000000 in
theorem c_X7_number (l : Launch) (P : zw_P) (σ : zw_S) (x1 : Int32) (x2 : Int32) (x3 : Int32) : zc_i l P yX7_number cX7_number 5 .int 3 [.ref (zw_ad P 57), .int x1, .int x2, .int x3] σ (m_X7_number σ x1 x2 x3) := by
  refine zc_i.of (by decide) (Nat.le_of_ble_eq_true rfl) (fun B r τ E hl hr hm => ?_)
  subst hl
  refine zr_sub (lv' := [(0, .ref (zw_ad P 57)), (1, .int x1), (2, .int x2), (3, .int x3)]) [0, 1, 2, 3] rfl ?_
  unfold m_X7_number at hm
  refine zr_aload_n E dX7_number_0 0 rfl ?_
  refine zr_aload_n E dX7_number_1 0 rfl ?_
  refine fg_X7_249 E dX7_number_2 ?_
  refine zr_if_ne (tgt := 35) E dX7_number_5 (by decide) (fun c1 => ?_) (fun c1 => ?_)
  · rw [if_neg c1] at hm
    refine zr_iconst (v := 1) E dX7_number_35 (by decide) ?_
    refine zr_goto (tgt := 40) E dX7_number_36 (by decide) ?_
    refine zr_sub (lv' := [(0, .ref (zw_ad P 57))]) [0] rfl ?_
    exact t_X7_number_40 E hr σ 1 hm
  · rw [if_pos c1] at hm
    refine zr_iload_n E dX7_number_8 3 rfl ?_
    refine zr_if_eq (tgt := 35) E dX7_number_9 (by decide) (fun c2 => ?_) (fun c2 => ?_)
    · rw [if_pos c2] at hm
      refine zr_iconst (v := 1) E dX7_number_35 (by decide) ?_
      refine zr_goto (tgt := 40) E dX7_number_36 (by decide) ?_
      refine zr_sub (lv' := [(0, .ref (zw_ad P 57))]) [0] rfl ?_
      exact t_X7_number_40 E hr σ 1 hm
    · rw [if_neg c2] at hm
      refine zr_aload_n E dX7_number_12 0 rfl ?_
      refine fg_X7_246 E dX7_number_13 ?_
      refine zr_iconst (v := 2) E dX7_number_16 (by decide) ?_
      refine zr_icmp_ne (tgt := 35) E dX7_number_17 (by decide) (fun c3 => ?_) (fun c3 => ?_)
      · rw [if_neg c3] at hm
        refine zr_iconst (v := 1) E dX7_number_35 (by decide) ?_
        refine zr_goto (tgt := 40) E dX7_number_36 (by decide) ?_
        refine zr_sub (lv' := [(0, .ref (zw_ad P 57))]) [0] rfl ?_
        exact t_X7_number_40 E hr σ 1 hm
      · rw [if_pos c3] at hm
        refine zr_aload_n E dX7_number_20 0 rfl ?_
        refine fg_X7_243 E dX7_number_21 ?_
        refine zr_i2l E dX7_number_24 ?_
        refine zr_iload_n E dX7_number_25 1 rfl ?_
        refine zr_i2l E dX7_number_26 ?_
        refine zr_iload_n E dX7_number_27 2 rfl ?_
        refine zr_i2l E dX7_number_28 ?_
        obtain ⟨r5, s4, os4, hm⟩ := cl_some hm
        refine zr_cSi (st := [.ref (zw_ad P 57)]) E mw_120 cm_X7_in (c_X7_in B.2.1 P σ ((σ 57 13).toInt64) x1.toInt64 x2.toInt64) os4 ⟨by decide, by decide⟩ rfl rfl (Nat.le_of_ble_eq_true rfl) dX7_number_29 ?_
        refine zr_if_ne (tgt := 39) E dX7_number_32 (by decide) (fun c6 => ?_) (fun c6 => ?_)
        · rw [if_neg c6] at hm
          refine zr_iconst (v := 0) E dX7_number_39 (by decide) ?_
          refine zr_sub (lv' := [(0, .ref (zw_ad P 57))]) [0] rfl ?_
          exact t_X7_number_40 E hr s4 0 hm
        · rw [if_pos c6] at hm
          refine zr_iconst (v := 1) E dX7_number_35 (by decide) ?_
          refine zr_goto (tgt := 40) E dX7_number_36 (by decide) ?_
          refine zr_sub (lv' := [(0, .ref (zw_ad P 57))]) [0] rfl ?_
          exact t_X7_number_40 E hr s4 1 hm
-- X7_word
set_option maxRecDepth 100000 in
set_option maxHeartbeats 4000000 in
theorem c_X7_word (l : Launch) (P : zw_P) (b1 : Nat) (hb1 : b1 < 15) (σ : zw_S) : zc_v l P yX7_word cX7_word 2 6 [.ref (zw_ad P 57), .ref (zw_aK P b1)] σ (m_X7_word b1 σ) := by
  refine zc_v.of (by decide) (Nat.le_of_ble_eq_true rfl) (fun B τ E hl hr hm => ?_)
  subst hl
  refine zr_sub (lv' := [(0, .ref (zw_ad P 57)), (1, .ref (zw_aK P b1))]) [0, 1] rfl ?_
  unfold m_X7_word at hm
  refine zr_aload_n E dX7_word_0 0 rfl ?_
  refine zr_aload_n E dX7_word_1 0 rfl ?_
  refine fg_X7_249 E dX7_word_2 ?_
  refine zr_if_ne (tgt := 16) E dX7_word_5 (by decide) (fun c1 => ?_) (fun c1 => ?_)
  · rw [if_neg c1] at hm
    refine zr_iconst (v := 1) E dX7_word_16 (by decide) ?_
    refine zr_goto (tgt := 21) E dX7_word_17 (by decide) ?_
    obtain ⟨s2, es2, hm⟩ := nm_some hm
    refine fp_X7_249 (by decide) E es2 dX7_word_21 ?_
    exact zr_vret E hr hm dX7_word_24
  · rw [if_pos c1] at hm
    refine zr_aload_n E dX7_word_8 0 rfl ?_
    refine zr_aload_n E dX7_word_9 1 rfl ?_
    obtain ⟨r4, s3, os3, hm⟩ := cl_some hm
    refine zr_cVi (st := [.ref (zw_ad P 57)]) E mw_970 cm_X7_takes (c_X7_takes B.2.1 P b1 hb1 σ) os3 (rc_57 P) ⟨by decide, by decide⟩ rfl rfl (Nat.le_of_ble_eq_true rfl) dX7_word_10 ?_
    refine zr_if_ne (tgt := 20) E dX7_word_13 (by decide) (fun c5 => ?_) (fun c5 => ?_)
    · rw [if_neg c5] at hm
      refine zr_iconst (v := 0) E dX7_word_20 (by decide) ?_
      obtain ⟨s6, es6, hm⟩ := nm_some hm
      refine fp_X7_249 (by decide) E es6 dX7_word_21 ?_
      exact zr_vret E hr hm dX7_word_24
    · rw [if_pos c5] at hm
      refine zr_iconst (v := 1) E dX7_word_16 (by decide) ?_
      refine zr_goto (tgt := 21) E dX7_word_17 (by decide) ?_
      obtain ⟨s7, es7, hm⟩ := nm_some hm
      refine fp_X7_249 (by decide) E es7 dX7_word_21 ?_
      exact zr_vret E hr hm dX7_word_24
-- X7_kindHere
set_option maxRecDepth 100000 in
set_option maxHeartbeats 4000000 in
theorem c_X7_kindHere (l : Launch) (P : zw_P) (σ : zw_S) : zc_i l P yX7_kindHere cX7_kindHere 1 .int 5 [.ref (zw_ad P 57)] σ (m_X7_kindHere σ) := by
  refine zc_i.of (by decide) (Nat.le_of_ble_eq_true rfl) (fun B r τ E hl hr hm => ?_)
  subst hl
  refine zr_sub (lv' := [(0, .ref (zw_ad P 57))]) [0] rfl ?_
  unfold m_X7_kindHere at hm
  refine zr_aload_n E dX7_kindHere_0 0 rfl ?_
  refine zr_ldcwM E rfl 6 (by decide) rfl dX7_kindHere_1 ?_
  obtain ⟨r2, s1, os1, hm⟩ := cl_some hm
  refine zr_cVi (st := []) E mw_964 cm_X7_isWord (c_X7_isWord B.2.1 P 6 (by decide) σ) os1 (rc_57 P) ⟨by decide, by decide⟩ rfl rfl (Nat.le_of_ble_eq_true rfl) dX7_kindHere_4 ?_
  refine zr_if_eq (tgt := 12) E dX7_kindHere_7 (by decide) (fun c3 => ?_) (fun c3 => ?_)
  · rw [if_pos c3] at hm
    refine zr_aload_n E dX7_kindHere_12 0 rfl ?_
    refine zr_ldcwM E rfl 7 (by decide) rfl dX7_kindHere_13 ?_
    obtain ⟨r5, s4, os4, hm⟩ := cl_some hm
    refine zr_cVi (st := []) E mw_964 cm_X7_isWord (c_X7_isWord B.2.1 P 7 (by decide) s1) os4 (rc_57 P) ⟨by decide, by decide⟩ rfl rfl (Nat.le_of_ble_eq_true rfl) dX7_kindHere_16 ?_
    refine zr_if_eq (tgt := 24) E dX7_kindHere_19 (by decide) (fun c6 => ?_) (fun c6 => ?_)
    · rw [if_pos c6] at hm
      refine zr_aload_n E dX7_kindHere_24 0 rfl ?_
      refine zr_ldcwM E rfl 8 (by decide) rfl dX7_kindHere_25 ?_
      obtain ⟨r8, s7, os7, hm⟩ := cl_some hm
      refine zr_cVi (st := []) E mw_964 cm_X7_isWord (c_X7_isWord B.2.1 P 8 (by decide) s4) os7 (rc_57 P) ⟨by decide, by decide⟩ rfl rfl (Nat.le_of_ble_eq_true rfl) dX7_kindHere_28 ?_
      refine zr_if_eq (tgt := 36) E dX7_kindHere_31 (by decide) (fun c9 => ?_) (fun c9 => ?_)
      · rw [if_pos c9] at hm
        refine zr_aload_n E dX7_kindHere_36 0 rfl ?_
        refine zr_ldcwM E rfl 9 (by decide) rfl dX7_kindHere_37 ?_
        obtain ⟨r11, s10, os10, hm⟩ := cl_some hm
        refine zr_cVi (st := []) E mw_964 cm_X7_isWord (c_X7_isWord B.2.1 P 9 (by decide) s7) os10 (rc_57 P) ⟨by decide, by decide⟩ rfl rfl (Nat.le_of_ble_eq_true rfl) dX7_kindHere_40 ?_
        refine zr_if_eq (tgt := 48) E dX7_kindHere_43 (by decide) (fun c12 => ?_) (fun c12 => ?_)
        · rw [if_pos c12] at hm
          refine zr_aload_n E dX7_kindHere_48 0 rfl ?_
          refine zr_ldcwM E rfl 10 (by decide) rfl dX7_kindHere_49 ?_
          obtain ⟨r14, s13, os13, hm⟩ := cl_some hm
          refine zr_cVi (st := []) E mw_964 cm_X7_isWord (c_X7_isWord B.2.1 P 10 (by decide) s10) os13 (rc_57 P) ⟨by decide, by decide⟩ rfl rfl (Nat.le_of_ble_eq_true rfl) dX7_kindHere_52 ?_
          refine zr_if_eq (tgt := 60) E dX7_kindHere_55 (by decide) (fun c15 => ?_) (fun c15 => ?_)
          · rw [if_pos c15] at hm
            refine zr_aload_n E dX7_kindHere_60 0 rfl ?_
            refine zr_ldcwM E rfl 11 (by decide) rfl dX7_kindHere_61 ?_
            obtain ⟨r17, s16, os16, hm⟩ := cl_some hm
            refine zr_cVi (st := []) E mw_964 cm_X7_isWord (c_X7_isWord B.2.1 P 11 (by decide) s13) os16 (rc_57 P) ⟨by decide, by decide⟩ rfl rfl (Nat.le_of_ble_eq_true rfl) dX7_kindHere_64 ?_
            refine zr_if_eq (tgt := 74) E dX7_kindHere_67 (by decide) (fun c18 => ?_) (fun c18 => ?_)
            · rw [if_pos c18] at hm
              refine zr_aload_n E dX7_kindHere_74 0 rfl ?_
              refine zr_ldcwM E rfl 12 (by decide) rfl dX7_kindHere_75 ?_
              obtain ⟨r20, s19, os19, hm⟩ := cl_some hm
              refine zr_cVi (st := []) E mw_964 cm_X7_isWord (c_X7_isWord B.2.1 P 12 (by decide) s16) os19 (rc_57 P) ⟨by decide, by decide⟩ rfl rfl (Nat.le_of_ble_eq_true rfl) dX7_kindHere_78 ?_
              refine zr_if_eq (tgt := 89) E dX7_kindHere_81 (by decide) (fun c21 => ?_) (fun c21 => ?_)
              · rw [if_pos c21] at hm
                refine zr_iconst (v := (-1)) E dX7_kindHere_89 (by decide) ?_
                exact zr_iret E hr rfl hm dX7_kindHere_90
              · rw [if_neg c21] at hm
                refine zr_bipush (v := 6) E dX7_kindHere_84 (by decide) ?_
                refine zr_goto (tgt := 90) E dX7_kindHere_86 (by decide) ?_
                exact zr_iret E hr rfl hm dX7_kindHere_90
            · rw [if_neg c18] at hm
              refine zr_iconst (v := 5) E dX7_kindHere_70 (by decide) ?_
              refine zr_goto (tgt := 90) E dX7_kindHere_71 (by decide) ?_
              exact zr_iret E hr rfl hm dX7_kindHere_90
          · rw [if_neg c15] at hm
            refine zr_iconst (v := 4) E dX7_kindHere_58 (by decide) ?_
            exact zr_iret E hr rfl hm dX7_kindHere_59
        · rw [if_neg c12] at hm
          refine zr_iconst (v := 3) E dX7_kindHere_46 (by decide) ?_
          exact zr_iret E hr rfl hm dX7_kindHere_47
      · rw [if_neg c9] at hm
        refine zr_iconst (v := 2) E dX7_kindHere_34 (by decide) ?_
        exact zr_iret E hr rfl hm dX7_kindHere_35
    · rw [if_neg c6] at hm
      refine zr_iconst (v := 1) E dX7_kindHere_22 (by decide) ?_
      exact zr_iret E hr rfl hm dX7_kindHere_23
  · rw [if_neg c3] at hm
    refine zr_iconst (v := 0) E dX7_kindHere_10 (by decide) ?_
    exact zr_iret E hr rfl hm dX7_kindHere_11
-- X7_nameItem
set_option maxRecDepth 100000 in
set_option maxHeartbeats 4000000 in
theorem c_X7_nameItem (l : Launch) (P : zw_P) (σ : zw_S) : zc_v l P yX7_nameItem cX7_nameItem 3 7 [.ref (zw_ad P 57)] σ (m_X7_nameItem σ) := by
  refine zc_v.of (by decide) (Nat.le_of_ble_eq_true rfl) (fun B τ E hl hr hm => ?_)
  subst hl
  refine zr_sub (lv' := [(0, .ref (zw_ad P 57))]) [0] rfl ?_
  unfold m_X7_nameItem at hm
  refine zr_aload_n E dX7_nameItem_0 0 rfl ?_
  refine zr_iconst (v := 0) E dX7_nameItem_1 (by decide) ?_
  refine zr_bipush (v := 7) E dX7_nameItem_2 (by decide) ?_
  refine zr_iconst (v := 1) E dX7_nameItem_4 (by decide) ?_
  obtain ⟨r2, s1, os1, hm⟩ := cl_some hm
  refine zr_cVi (st := []) E mw_978 cm_X7_number (c_X7_number B.2.1 P σ 0 7 1) os1 (rc_57 P) ⟨by decide, by decide⟩ rfl rfl (Nat.le_of_ble_eq_true rfl) dX7_nameItem_5 ?_
  refine zr_istore_n (lv' := [(1, .int r2), (0, .ref (zw_ad P 57))]) E dX7_nameItem_8 (by decide) rfl ?_
  refine zr_aload_n E dX7_nameItem_9 1 rfl ?_
  refine zr_ldcwM E rfl 1 (by decide) rfl dX7_nameItem_10 ?_
  obtain ⟨s3, os3, hm⟩ := cv_some hm
  refine zr_cVv (st := []) E mw_982 cm_X7_word (c_X7_word B.2.1 P 1 (by decide) s1) os3 (rc_57 P) ⟨by decide, by decide⟩ rfl rfl (Nat.le_of_ble_eq_true rfl) dX7_nameItem_13 ?_
  refine zr_aload_n E dX7_nameItem_16 1 rfl ?_
  refine zr_iconst (v := 0) E dX7_nameItem_17 (by decide) ?_
  refine zr_bipush (v := 99) E dX7_nameItem_18 (by decide) ?_
  refine zr_iconst (v := 1) E dX7_nameItem_20 (by decide) ?_
  obtain ⟨r5, s4, os4, hm⟩ := cl_some hm
  refine zr_cVi (st := []) E mw_978 cm_X7_number (c_X7_number B.2.1 P s3 0 99 1) os4 (rc_57 P) ⟨by decide, by decide⟩ rfl rfl (Nat.le_of_ble_eq_true rfl) dX7_nameItem_21 ?_
  refine zr_istore_n (lv' := [(2, .int r5), (1, .int r2), (0, .ref (zw_ad P 57))]) E dX7_nameItem_24 (by decide) rfl ?_
  refine zr_aload_n E dX7_nameItem_25 2 rfl ?_
  refine fg_X7_249 E dX7_nameItem_26 ?_
  refine zr_if_ne (tgt := 43) E dX7_nameItem_29 (by decide) (fun c6 => ?_) (fun c6 => ?_)
  · rw [if_neg c6] at hm
    exact zr_vret E hr hm dX7_nameItem_43
  · rw [if_pos c6] at hm
    refine zr_aload_n E dX7_nameItem_32 2 rfl ?_
    refine fg_X7_9 E dX7_nameItem_33 ?_
    refine zr_iconst (v := 4) E dX7_nameItem_36 (by decide) ?_
    refine zr_iconst (v := 2) E dX7_nameItem_37 (by decide) ?_
    refine zr_iload_n E dX7_nameItem_38 1 rfl ?_
    refine zr_imul E dX7_nameItem_39 ?_
    refine zr_iadd E dX7_nameItem_40 ?_
    refine zr_iload_n E dX7_nameItem_41 0 rfl ?_
    obtain ⟨hs7, s7, es7, hm⟩ := wt_some hm
    refine zr_iast E ac_58 hs7 es7 dX7_nameItem_42 ?_
    exact zr_vret E hr hm dX7_nameItem_43
-- X7_taskItem
set_option maxRecDepth 100000 in
set_option maxHeartbeats 4000000 in
theorem t_X7_taskItem_93 {B : zw_B} {P : zw_P} {τ : zw_S} (E : zf B P cX7_taskItem RX7 5 7) (hr : B.2.2.2.2.2.2.2.2.1.sig.returnType = none) (σ : zw_S) (x1 : Int32) (x2 : Int32) (x3 : Int32) (y0 : Int32) (hm : m_X7_taskItem_93 σ x1 x2 x3 y0 = some τ) : zw_G B P (zq_v B P τ) 5 σ 93 [(0, .ref (zw_ad P 57)), (1, .int x1), (2, .int x2), (3, .int x3)] [.int y0] := by
  unfold m_X7_taskItem_93 at hm
  refine zr_istore (lv' := [(4, .int y0), (0, .ref (zw_ad P 57)), (1, .int x1), (2, .int x2), (3, .int x3)]) E dX7_taskItem_93 (by decide) rfl ?_
  refine zr_aload_n E dX7_taskItem_95 1 rfl ?_
  refine fg_X7_249 E dX7_taskItem_96 ?_
  refine zr_if_ne (tgt := 111) E dX7_taskItem_99 (by decide) (fun c1 => ?_) (fun c1 => ?_)
  · rw [if_neg c1] at hm
    exact zr_vret E hr hm dX7_taskItem_111
  · rw [if_pos c1] at hm
    refine zr_aload_n E dX7_taskItem_102 1 rfl ?_
    refine zr_iload_n E dX7_taskItem_103 2 rfl ?_
    refine zr_iload_n E dX7_taskItem_104 3 rfl ?_
    refine zr_iload_n E dX7_taskItem_105 4 rfl ?_
    refine zr_iload E dX7_taskItem_106 0 rfl ?_
    obtain ⟨s2, os2, hm⟩ := cv_some hm
    refine zr_cVv (st := []) E mw_157 cm_X7_comes (c_X7_comes B.2.1 P σ x1 x2 x3 y0) os2 (rc_57 P) ⟨by decide, by decide⟩ rfl rfl (Nat.le_of_ble_eq_true rfl) dX7_taskItem_108 ?_
    exact zr_vret E hr hm dX7_taskItem_111
set_option maxRecDepth 100000 in
set_option maxHeartbeats 4000000 in
theorem t_X7_taskItem_24 {B : zw_B} {P : zw_P} {τ : zw_S} (E : zf B P cX7_taskItem RX7 5 7) (hr : B.2.2.2.2.2.2.2.2.1.sig.returnType = none) (σ : zw_S) (x1 : Int32) (y0 : Int32) (hm : m_X7_taskItem_24 σ x1 y0 = some τ) : zw_G B P (zq_v B P τ) 5 σ 24 [(0, .ref (zw_ad P 57)), (1, .int x1)] [.int y0, .ref (zw_ad P 57)] := by
  unfold m_X7_taskItem_24 at hm
  obtain ⟨hz1, hm⟩ := tt_some hm
  obtain ⟨s2, es2, hm⟩ := nm_some hm
  refine fp_X7_249 (zz_some hz1) E es2 dX7_taskItem_24 ?_
  refine zr_aload_n E dX7_taskItem_27 0 rfl ?_
  refine fg_X7_249 E dX7_taskItem_28 ?_
  refine zr_if_eq (tgt := 35) E dX7_taskItem_31 (by decide) (fun c3 => ?_) (fun c3 => ?_)
  · rw [if_pos c3] at hm
    refine zr_aload_n E dX7_taskItem_35 0 rfl ?_
    obtain ⟨s4, os4, hm⟩ := cv_some hm
    refine zr_cVv (st := []) E mw_947 cm_X7_token (c_X7_token B.2.1 P s2) os4 (rc_57 P) ⟨by decide, by decide⟩ rfl rfl (Nat.le_of_ble_eq_true rfl) dX7_taskItem_36 ?_
    refine zr_aload_n E dX7_taskItem_39 0 rfl ?_
    refine zr_iconst (v := 0) E dX7_taskItem_40 (by decide) ?_
    refine zr_bipush (v := 7) E dX7_taskItem_41 (by decide) ?_
    refine zr_iconst (v := 1) E dX7_taskItem_43 (by decide) ?_
    obtain ⟨r6, s5, os5, hm⟩ := cl_some hm
    refine zr_cVi (st := []) E mw_978 cm_X7_number (c_X7_number B.2.1 P s4 0 7 1) os5 (rc_57 P) ⟨by decide, by decide⟩ rfl rfl (Nat.le_of_ble_eq_true rfl) dX7_taskItem_44 ?_
    refine zr_istore_n (lv' := [(2, .int r6), (0, .ref (zw_ad P 57)), (1, .int x1)]) E dX7_taskItem_47 (by decide) rfl ?_
    refine zr_aload_n E dX7_taskItem_48 1 rfl ?_
    refine zr_ldcwM E rfl 13 (by decide) rfl dX7_taskItem_49 ?_
    obtain ⟨s7, os7, hm⟩ := cv_some hm
    refine zr_cVv (st := []) E mw_982 cm_X7_word (c_X7_word B.2.1 P 13 (by decide) s5) os7 (rc_57 P) ⟨by decide, by decide⟩ rfl rfl (Nat.le_of_ble_eq_true rfl) dX7_taskItem_52 ?_
    refine zr_aload_n E dX7_taskItem_55 1 rfl ?_
    refine zr_iconst (v := 1) E dX7_taskItem_56 (by decide) ?_
    refine zr_sipush (v := 999) E dX7_taskItem_57 (by decide) ?_
    refine zr_iconst (v := 1) E dX7_taskItem_60 (by decide) ?_
    obtain ⟨r9, s8, os8, hm⟩ := cl_some hm
    refine zr_cVi (st := []) E mw_978 cm_X7_number (c_X7_number B.2.1 P s7 1 999 1) os8 (rc_57 P) ⟨by decide, by decide⟩ rfl rfl (Nat.le_of_ble_eq_true rfl) dX7_taskItem_61 ?_
    refine zr_istore_n (lv' := [(3, .int r9), (2, .int r6), (0, .ref (zw_ad P 57)), (1, .int x1)]) E dX7_taskItem_64 (by decide) rfl ?_
    refine zr_aload_n E dX7_taskItem_65 2 rfl ?_
    refine zr_ldcwM E rfl 14 (by decide) rfl dX7_taskItem_66 ?_
    obtain ⟨r11, s10, os10, hm⟩ := cl_some hm
    refine zr_cVi (st := []) E mw_970 cm_X7_takes (c_X7_takes B.2.1 P 14 (by decide) s8) os10 (rc_57 P) ⟨by decide, by decide⟩ rfl rfl (Nat.le_of_ble_eq_true rfl) dX7_taskItem_69 ?_
    refine zr_if_eq (tgt := 92) E dX7_taskItem_72 (by decide) (fun c12 => ?_) (fun c12 => ?_)
    · rw [if_pos c12] at hm
      refine zr_iconst (v := (-1)) E dX7_taskItem_92 (by decide) ?_
      refine zr_sub (lv' := [(0, .ref (zw_ad P 57)), (1, .int x1), (2, .int r6), (3, .int r9)]) [2, 3, 1, 0] rfl ?_
      exact t_X7_taskItem_93 E hr s10 x1 r6 r9 (-1) hm
    · rw [if_neg c12] at hm
      refine zr_aload_n E dX7_taskItem_75 2 rfl ?_
      refine zr_iconst (v := 0) E dX7_taskItem_76 (by decide) ?_
      refine zr_aload_n E dX7_taskItem_77 2 rfl ?_
      refine fg_X7_9 E dX7_taskItem_78 ?_
      refine zr_iconst (v := 2) E dX7_taskItem_81 (by decide) ?_
      obtain ⟨hv13, v13, ev13, hm⟩ := rd_some hm
      refine zr_iald E ac_58 hv13 ev13 dX7_taskItem_82 ?_
      refine zr_iconst (v := 1) E dX7_taskItem_83 (by decide) ?_
      refine zr_isub E dX7_taskItem_84 ?_
      refine zr_iconst (v := 1) E dX7_taskItem_85 (by decide) ?_
      obtain ⟨r15, s14, os14, hm⟩ := cl_some hm
      refine zr_cVi (st := []) E mw_978 cm_X7_number (c_X7_number B.2.1 P s10 0 (v13 - 1) 1) os14 (rc_57 P) ⟨by decide, by decide⟩ rfl rfl (Nat.le_of_ble_eq_true rfl) dX7_taskItem_86 ?_
      refine zr_goto (tgt := 93) E dX7_taskItem_89 (by decide) ?_
      refine zr_sub (lv' := [(0, .ref (zw_ad P 57)), (1, .int x1), (2, .int r6), (3, .int r9)]) [2, 3, 1, 0] rfl ?_
      exact t_X7_taskItem_93 E hr s14 x1 r6 r9 r15 hm
  · rw [if_neg c3] at hm
    exact zr_vret E hr hm dX7_taskItem_34
set_option maxRecDepth 100000 in
set_option maxHeartbeats 4000000 in
theorem c_X7_taskItem (l : Launch) (P : zw_P) (σ : zw_S) (x1 : Int32) : zc_v l P yX7_taskItem cX7_taskItem 5 7 [.ref (zw_ad P 57), .int x1] σ (m_X7_taskItem σ x1) := by
  refine zc_v.of (by decide) (Nat.le_of_ble_eq_true rfl) (fun B τ E hl hr hm => ?_)
  subst hl
  refine zr_sub (lv' := [(0, .ref (zw_ad P 57)), (1, .int x1)]) [0, 1] rfl ?_
  unfold m_X7_taskItem at hm
  refine zr_aload_n E dX7_taskItem_0 0 rfl ?_
  refine zr_aload_n E dX7_taskItem_1 0 rfl ?_
  refine fg_X7_249 E dX7_taskItem_2 ?_
  refine zr_if_ne (tgt := 19) E dX7_taskItem_5 (by decide) (fun c1 => ?_) (fun c1 => ?_)
  · rw [if_neg c1] at hm
    refine zr_iconst (v := 1) E dX7_taskItem_19 (by decide) ?_
    refine zr_goto (tgt := 24) E dX7_taskItem_20 (by decide) ?_
    refine zr_sub (lv' := [(0, .ref (zw_ad P 57)), (1, .int x1)]) [0, 1] rfl ?_
    exact t_X7_taskItem_24 E hr σ x1 1 hm
  · rw [if_pos c1] at hm
    refine zr_aload_n E dX7_taskItem_8 0 rfl ?_
    refine fg_X7_9 E dX7_taskItem_9 ?_
    refine zr_iconst (v := 2) E dX7_taskItem_12 (by decide) ?_
    obtain ⟨hv2, v2, ev2, hm⟩ := rd_some hm
    refine zr_iald E ac_58 hv2 ev2 dX7_taskItem_13 ?_
    refine zr_bipush (v := 20) E dX7_taskItem_14 (by decide) ?_
    refine zr_icmp_ne (tgt := 23) E dX7_taskItem_16 (by decide) (fun c3 => ?_) (fun c3 => ?_)
    · rw [if_neg c3] at hm
      refine zr_iconst (v := 0) E dX7_taskItem_23 (by decide) ?_
      refine zr_sub (lv' := [(0, .ref (zw_ad P 57)), (1, .int x1)]) [0, 1] rfl ?_
      exact t_X7_taskItem_24 E hr σ x1 0 hm
    · rw [if_pos c3] at hm
      refine zr_iconst (v := 1) E dX7_taskItem_19 (by decide) ?_
      refine zr_goto (tgt := 24) E dX7_taskItem_20 (by decide) ?_
      refine zr_sub (lv' := [(0, .ref (zw_ad P 57)), (1, .int x1)]) [0, 1] rfl ?_
      exact t_X7_taskItem_24 E hr σ x1 1 hm
