-- X6_load
set_option maxRecDepth 100000 in
set_option maxHeartbeats 4000000 in
theorem t_X6_load_87 {B : zw_B} {P : zw_P} {r : Int32} {τ : zw_S} (E : zf B P cX6_load RX6 5 2) (hr : B.2.2.2.2.2.2.2.2.1.sig.returnType = some .int) (R55 : zw_S → Int32 → Int32 → Int32 → Option (Int32 × zw_S)) (hR55 : ∀ (σ : zw_S) (x1 : Int32) (x2 : Int32) (x3 : Int32), R55 σ x1 x2 x3 = some (r, τ) → zw_G B P (zq_i B P r τ) 5 σ 55 [(0, .ref (zw_ad P 0)), (1, .int x1), (2, .int x2), (3, .int x3)] []) (σ : zw_S) (x1 : Int32) (x2 : Int32) (x3 : Int32) (x4 : Int32) (hm : m_X6_load_87 R55 σ x1 x2 x3 x4 = some (r, τ)) : zw_G B P (zq_i B P r τ) 5 σ 87 [(0, .ref (zw_ad P 0)), (1, .int x1), (2, .int x2), (3, .int x3), (4, .int x4)] [] := by
  unfold m_X6_load_87 at hm
  refine zr_aload_n E dX6_load_87 0 rfl ?_
  refine fg_X6_12 E dX6_load_88 ?_
  refine zr_iload_n E dX6_load_91 3 rfl ?_
  refine zr_iload E dX6_load_92 4 rfl ?_
  obtain ⟨r2, s1, os1, hm⟩ := cl_some hm
  refine zr_cVi (st := []) E mw_381 cm_X0_mayTake (c_X0_mayTake B.2.1 P 1 bk_1 σ x3 x4) os1 (rc_bk P bk_1) ⟨by decide, by decide⟩ rfl rfl (Nat.le_of_ble_eq_true rfl) dX6_load_94 ?_
  refine zr_if_ne (tgt := 102) E dX6_load_97 (by decide) (fun c3 => ?_) (fun c3 => ?_)
  · rw [if_neg c3] at hm
    refine zr_aload_n E dX6_load_102 0 rfl ?_
    refine fg_X6_12 E dX6_load_103 ?_
    refine fg_X6_136 bk_1 E dX6_load_106 ?_
    refine zr_iload_n E dX6_load_109 3 rfl ?_
    refine zr_iload E dX6_load_110 4 rfl ?_
    obtain ⟨hs4, s4, es4, hm⟩ := wt_some hm
    refine zr_iast E ac_8 hs4 es4 dX6_load_112 ?_
    obtain ⟨v5, ev5, hm⟩ := nm_some hm
    refine zr_iinc (j := 3) (lv' := [(3, .int v5), (0, .ref (zw_ad P 0)), (1, .int x1), (2, .int x2), (4, .int x4)]) E dX6_load_113 rfl ev5 (by decide) rfl ?_
    refine zr_goto (tgt := 55) E dX6_load_116 (by decide) ?_
    refine zr_sub (lv' := [(0, .ref (zw_ad P 0)), (1, .int x1), (2, .int x2), (3, .int v5)]) [1, 2, 3, 0] rfl ?_
    exact hR55 s4 x1 x2 v5 hm
  · rw [if_pos c3] at hm
    refine zr_iload_n E dX6_load_100 3 rfl ?_
    exact zr_iret E hr rfl hm dX6_load_101
set_option maxRecDepth 100000 in
set_option maxHeartbeats 4000000 in
theorem t_X6_load_55 {B : zw_B} {P : zw_P} {r : Int32} {τ : zw_S} (E : zf B P cX6_load RX6 5 2) (hr : B.2.2.2.2.2.2.2.2.1.sig.returnType = some .int) : ∀ (n : Nat) (σ : zw_S) (x1 : Int32) (x2 : Int32) (x3 : Int32), m_X6_load_55 n σ x1 x2 x3 = some (r, τ) → zw_G B P (zq_i B P r τ) 5 σ 55 [(0, .ref (zw_ad P 0)), (1, .int x1), (2, .int x2), (3, .int x3)] [] := by
  intro n
  induction n with
  | zero => intro σ x1 x2 x3 hm; cases hm
  | succ n ih =>
    intro σ x1 x2 x3 hm
    unfold m_X6_load_55 at hm
    refine zr_iload_n E dX6_load_55 3 rfl ?_
    refine zr_iload_n E dX6_load_56 2 rfl ?_
    refine zr_icmp_ge (tgt := 119) E dX6_load_57 (by decide) (fun c1 => ?_) (fun c1 => ?_)
    · rw [if_pos c1] at hm
      refine zr_iload_n E dX6_load_119 2 rfl ?_
      exact zr_iret E hr rfl hm dX6_load_120
    · rw [if_neg c1] at hm
      refine zr_aload_n E dX6_load_60 0 rfl ?_
      refine fg_X6_47 E dX6_load_61 ?_
      refine zr_iload_n E dX6_load_64 1 rfl ?_
      obtain ⟨hz2, hm⟩ := tt_some hm
      refine zr_sheet E (zi_in hz2) dX6_load_65 ?_
      refine fg_X6_264 (zw_sh_of hz2) E dX6_load_66 ?_
      refine zr_iload_n E dX6_load_69 3 rfl ?_
      obtain ⟨hv3, v3, ev3, hm⟩ := rd_some hm
      refine zr_iald E (zw_sh_ar (zw_sh_of hz2)) hv3 ev3 dX6_load_70 ?_
      refine zr_istore (lv' := [(4, .int v3), (0, .ref (zw_ad P 0)), (1, .int x1), (2, .int x2), (3, .int x3)]) E dX6_load_71 (by decide) rfl ?_
      refine zr_iload E dX6_load_73 0 rfl ?_
      refine zr_iconst (v := (-1)) E dX6_load_75 (by decide) ?_
      refine zr_icmp_eq (tgt := 87) E dX6_load_76 (by decide) (fun c4 => ?_) (fun c4 => ?_)
      · rw [if_pos c4] at hm
        refine zr_sub (lv' := [(0, .ref (zw_ad P 0)), (1, .int x1), (2, .int x2), (3, .int x3), (4, .int v3)]) [1, 2, 3, 4, 0] rfl ?_
        exact t_X6_load_87 E hr (m_X6_load_55 n) ih σ x1 x2 x3 v3 hm
      · rw [if_neg c4] at hm
        refine zr_iload E dX6_load_79 0 rfl ?_
        obtain ⟨r6, s5, os5, hm⟩ := cl_some hm
        refine zr_cSi (st := []) E mw_100 cm_X6_isName (c_X6_isName B.2.1 P σ v3) os5 ⟨by decide, by decide⟩ rfl rfl (Nat.le_of_ble_eq_true rfl) dX6_load_81 ?_
        refine zr_if_eq (tgt := 100) E dX6_load_84 (by decide) (fun c7 => ?_) (fun c7 => ?_)
        · rw [if_pos c7] at hm
          refine zr_iload_n E dX6_load_100 4 rfl ?_
          exact zr_iret E hr rfl hm dX6_load_101
        · rw [if_neg c7] at hm
          refine zr_sub (lv' := [(0, .ref (zw_ad P 0)), (1, .int x1), (2, .int x2), (3, .int x3), (4, .int v3)]) [1, 2, 3, 4, 0] rfl ?_
          exact t_X6_load_87 E hr (m_X6_load_55 n) ih s5 x1 x2 x3 v3 hm
set_option maxRecDepth 100000 in
set_option maxHeartbeats 4000000 in
theorem c_X6_load (l : Launch) (P : zw_P) (σ : zw_S) (x1 : Int32) : zc_i l P yX6_load cX6_load 5 .int 2 [.ref (zw_ad P 0), .int x1] σ (m_X6_load σ x1) := by
  refine zc_i.of (by decide) (Nat.le_of_ble_eq_true rfl) (fun B r τ E hl hr hm => ?_)
  subst hl
  refine zr_sub (lv' := [(0, .ref (zw_ad P 0)), (1, .int x1)]) [0, 1] rfl ?_
  unfold m_X6_load at hm
  refine zr_iload_n E dX6_load_0 1 rfl ?_
  obtain ⟨r2, s1, os1, hm⟩ := cl_some hm
  refine zr_cSi (st := []) E mw_1027 cm_X6_isSheet (c_X6_isSheet B.2.1 P σ x1) os1 ⟨by decide, by decide⟩ rfl rfl (Nat.le_of_ble_eq_true rfl) dX6_load_1 ?_
  refine zr_if_ne (tgt := 14) E dX6_load_4 (by decide) (fun c3 => ?_) (fun c3 => ?_)
  · rw [if_neg c3] at hm
    refine zr_aload_n E dX6_load_14 0 rfl ?_
    refine fg_X6_47 E dX6_load_15 ?_
    refine zr_iload_n E dX6_load_18 1 rfl ?_
    obtain ⟨hz4, hm⟩ := tt_some hm
    refine zr_sheet E (zi_in hz4) dX6_load_19 ?_
    obtain ⟨r6, s5, os5, hm⟩ := cl_some hm
    refine zr_cVi (st := []) E mw_1049 cm_X3_isMissing (c_X3_isMissing B.2.1 P (48 + 2 * x1.toNatClampNeg) (zw_sh_of hz4) s1) os5 (rc_sh P (zw_sh_of hz4)) ⟨by decide, by decide⟩ rfl rfl (Nat.le_of_ble_eq_true rfl) dX6_load_20 ?_
    refine zr_if_eq (tgt := 33) E dX6_load_23 (by decide) (fun c7 => ?_) (fun c7 => ?_)
    · rw [if_pos c7] at hm
      refine zr_aload_n E dX6_load_33 0 rfl ?_
      refine fg_X6_47 E dX6_load_34 ?_
      refine zr_iload_n E dX6_load_37 1 rfl ?_
      obtain ⟨hz8, hm⟩ := tt_some hm
      refine zr_sheet E (zi_in hz8) dX6_load_38 ?_
      refine fg_X6_251 (zw_sh_of hz8) E dX6_load_39 ?_
      refine zr_aload_n E dX6_load_42 0 rfl ?_
      refine fg_X6_12 E dX6_load_43 ?_
      refine fg_X6_126 bk_1 E dX6_load_46 ?_
      refine zr_min (h := 1) E mw_1080 mM_min_1 mM_min_2 mM_min_3 (Nat.le_of_ble_eq_true rfl) dX6_load_49 ?_
      obtain ⟨v9, ev9, hm⟩ := nm_some hm
      refine zr_top ev9 ?_
      refine zr_istore_n (lv' := [(2, .int v9), (0, .ref (zw_ad P 0)), (1, .int x1)]) E dX6_load_52 (by decide) rfl ?_
      refine zr_iconst (v := 0) E dX6_load_53 (by decide) ?_
      refine zr_istore_n (lv' := [(3, .int 0), (2, .int v9), (0, .ref (zw_ad P 0)), (1, .int x1)]) E dX6_load_54 (by decide) rfl ?_
      refine zr_sub (lv' := [(0, .ref (zw_ad P 0)), (1, .int x1), (2, .int v9), (3, .int 0)]) [2, 3, 1, 0] rfl ?_
      exact t_X6_load_55 E hr 200 s5 x1 v9 0 hm
    · rw [if_neg c7] at hm
      refine zr_aload_n E dX6_load_26 0 rfl ?_
      refine zr_ldc E mw_1011 dX6_load_27 ?_
      obtain ⟨r11, s10, os10, hm⟩ := cl_some hm
      refine zr_cVi (st := []) E mw_106 cm_X6_found (c_X6_found B.2.1 P s5 (-1000006)) os10 (rc_0 P) ⟨by decide, by decide⟩ rfl rfl (Nat.le_of_ble_eq_true rfl) dX6_load_29 ?_
      exact zr_iret E hr rfl hm dX6_load_32
  · rw [if_pos c3] at hm
    refine zr_aload_n E dX6_load_7 0 rfl ?_
    refine zr_ldc E mw_98 dX6_load_8 ?_
    obtain ⟨r13, s12, os12, hm⟩ := cl_some hm
    refine zr_cVi (st := []) E mw_106 cm_X6_found (c_X6_found B.2.1 P s1 (-1000001)) os12 (rc_0 P) ⟨by decide, by decide⟩ rfl rfl (Nat.le_of_ble_eq_true rfl) dX6_load_10 ?_
    exact zr_iret E hr rfl hm dX6_load_13
-- X6_judge
set_option maxRecDepth 100000 in
set_option maxHeartbeats 4000000 in
theorem t_X6_judge_161 {B : zw_B} {P : zw_P} {r : Int32} {τ : zw_S} (E : zf B P cX6_judge RX6 6 6) (hr : B.2.2.2.2.2.2.2.2.1.sig.returnType = some .int) (σ : zw_S) (x4 : Int32) (y0 : Int32) (hm : m_X6_judge_161 σ x4 y0 = some (r, τ)) : zw_G B P (zq_i B P r τ) 6 σ 161 [(4, .int x4)] [.int y0] := by
  unfold m_X6_judge_161 at hm
  refine zr_istore (lv' := [(5, .int y0), (4, .int x4)]) E dX6_judge_161 (by decide) rfl ?_
  refine zr_iload E dX6_judge_163 0 rfl ?_
  refine zr_if_eq (tgt := 172) E dX6_judge_165 (by decide) (fun c1 => ?_) (fun c1 => ?_)
  · rw [if_pos c1] at hm
    refine zr_iconst (v := 1) E dX6_judge_172 (by decide) ?_
    refine zr_iload E dX6_judge_173 1 rfl ?_
    refine zr_iadd E dX6_judge_175 ?_
    exact zr_iret E hr rfl hm dX6_judge_176
  · rw [if_neg c1] at hm
    refine zr_iconst (v := 0) E dX6_judge_168 (by decide) ?_
    refine zr_goto (tgt := 176) E dX6_judge_169 (by decide) ?_
    exact zr_iret E hr rfl hm dX6_judge_176
set_option maxRecDepth 100000 in
set_option maxHeartbeats 4000000 in
theorem t_X6_judge_130 {B : zw_B} {P : zw_P} {r : Int32} {τ : zw_S} (E : zf B P cX6_judge RX6 6 6) (hr : B.2.2.2.2.2.2.2.2.1.sig.returnType = some .int) (σ : zw_S) (x1 : Int32) (x4 : Int32) (hm : m_X6_judge_130 σ x1 x4 = some (r, τ)) : zw_G B P (zq_i B P r τ) 6 σ 130 [(0, .ref (zw_ad P 0)), (1, .int x1), (4, .int x4)] [] := by
  unfold m_X6_judge_130 at hm
  refine zr_iload E dX6_judge_130 2 rfl ?_
  refine zr_aload_n E dX6_judge_132 0 rfl ?_
  refine fg_X6_47 E dX6_judge_133 ?_
  refine zr_iload_n E dX6_judge_136 1 rfl ?_
  obtain ⟨hz1, hm⟩ := tt_some hm
  refine zr_sheet E (zi_in hz1) dX6_judge_137 ?_
  refine fg_X6_251 (zw_sh_of hz1) E dX6_judge_138 ?_
  refine zr_icmp_ne (tgt := 160) E dX6_judge_141 (by decide) (fun c2 => ?_) (fun c2 => ?_)
  · rw [if_neg c2] at hm
    refine zr_iconst (v := 0) E dX6_judge_160 (by decide) ?_
    refine zr_sub (lv' := [(4, .int x4)]) [2] rfl ?_
    exact t_X6_judge_161 E hr σ x4 0 hm
  · rw [if_pos c2] at hm
    refine zr_iload E dX6_judge_144 2 rfl ?_
    refine zr_aload_n E dX6_judge_146 0 rfl ?_
    refine fg_X6_19 E dX6_judge_147 ?_
    refine fg_X6_77 bk_25 E dX6_judge_150 ?_
    refine zr_icmp_ne (tgt := 160) E dX6_judge_153 (by decide) (fun c3 => ?_) (fun c3 => ?_)
    · rw [if_neg c3] at hm
      refine zr_iconst (v := 0) E dX6_judge_160 (by decide) ?_
      refine zr_sub (lv' := [(4, .int x4)]) [2] rfl ?_
      exact t_X6_judge_161 E hr σ x4 0 hm
    · rw [if_pos c3] at hm
      refine zr_iconst (v := 1) E dX6_judge_156 (by decide) ?_
      refine zr_goto (tgt := 161) E dX6_judge_157 (by decide) ?_
      refine zr_sub (lv' := [(4, .int x4)]) [2] rfl ?_
      exact t_X6_judge_161 E hr σ x4 1 hm
set_option maxRecDepth 100000 in
set_option maxHeartbeats 4000000 in
theorem t_X6_judge_93 {B : zw_B} {P : zw_P} {r : Int32} {τ : zw_S} (E : zf B P cX6_judge RX6 6 6) (hr : B.2.2.2.2.2.2.2.2.1.sig.returnType = some .int) : ∀ (n : Nat) (σ : zw_S) (x1 : Int32) (x3 : Int32) (x4 : Int32), m_X6_judge_93 n σ x1 x3 x4 = some (r, τ) → zw_G B P (zq_i B P r τ) 6 σ 93 [(0, .ref (zw_ad P 0)), (1, .int x1), (3, .int x3), (4, .int x4)] [] := by
  intro n
  induction n with
  | zero => intro σ x1 x3 x4 hm; cases hm
  | succ n ih =>
    intro σ x1 x3 x4 hm
    unfold m_X6_judge_93 at hm
    refine zr_iload E dX6_judge_93 3 rfl ?_
    refine zr_iload_n E dX6_judge_95 2 rfl ?_
    refine zr_icmp_ge (tgt := 130) E dX6_judge_96 (by decide) (fun c1 => ?_) (fun c1 => ?_)
    · rw [if_pos c1] at hm
      refine zr_sub (lv' := [(0, .ref (zw_ad P 0)), (1, .int x1), (4, .int x4)]) [0, 1, 3] rfl ?_
      exact t_X6_judge_130 E hr σ x1 x4 hm
    · rw [if_neg c1] at hm
      refine zr_aload_n E dX6_judge_99 0 rfl ?_
      refine fg_X6_47 E dX6_judge_100 ?_
      refine zr_iload_n E dX6_judge_103 1 rfl ?_
      obtain ⟨hz2, hm⟩ := tt_some hm
      refine zr_sheet E (zi_in hz2) dX6_judge_104 ?_
      refine fg_X6_264 (zw_sh_of hz2) E dX6_judge_105 ?_
      refine zr_iload E dX6_judge_108 3 rfl ?_
      obtain ⟨hv3, v3, ev3, hm⟩ := rd_some hm
      refine zr_iald E (zw_sh_ar (zw_sh_of hz2)) hv3 ev3 dX6_judge_110 ?_
      refine zr_aload_n E dX6_judge_111 0 rfl ?_
      refine fg_X6_19 E dX6_judge_112 ?_
      refine fg_X6_95 bk_25 E dX6_judge_115 ?_
      refine zr_iload E dX6_judge_118 3 rfl ?_
      obtain ⟨hv4, v4, ev4, hm⟩ := rd_some hm
      refine zr_iald E ac_30 hv4 ev4 dX6_judge_120 ?_
      refine zr_icmp_ne (tgt := 130) E dX6_judge_121 (by decide) (fun c5 => ?_) (fun c5 => ?_)
      · rw [if_neg c5] at hm
        refine zr_sub (lv' := [(0, .ref (zw_ad P 0)), (1, .int x1), (4, .int x4)]) [0, 1, 3] rfl ?_
        exact t_X6_judge_130 E hr σ x1 x4 hm
      · rw [if_pos c5] at hm
        obtain ⟨v6, ev6, hm⟩ := nm_some hm
        refine zr_iinc (j := 3) (lv' := [(4, .int v6), (0, .ref (zw_ad P 0)), (1, .int x1), (3, .int x3)]) E dX6_judge_124 rfl ev6 (by decide) rfl ?_
        refine zr_goto (tgt := 93) E dX6_judge_127 (by decide) ?_
        refine zr_sub (lv' := [(0, .ref (zw_ad P 0)), (1, .int x1), (3, .int x3), (4, .int v6)]) [1, 2, 3, 0] rfl ?_
        exact ih σ x1 x3 v6 hm
set_option maxRecDepth 100000 in
set_option maxHeartbeats 4000000 in
theorem c_X6_judge (l : Launch) (P : zw_P) (σ : zw_S) (x1 : Int32) (x2 : Int32) : zc_i l P yX6_judge cX6_judge 6 .int 6 [.ref (zw_ad P 0), .int x1, .int x2] σ (m_X6_judge σ x1 x2) := by
  refine zc_i.of (by decide) (Nat.le_of_ble_eq_true rfl) (fun B r τ E hl hr hm => ?_)
  subst hl
  refine zr_sub (lv' := [(0, .ref (zw_ad P 0)), (1, .int x1), (2, .int x2)]) [0, 1, 2] rfl ?_
  unfold m_X6_judge at hm
  refine zr_iload_n E dX6_judge_0 1 rfl ?_
  obtain ⟨r2, s1, os1, hm⟩ := cl_some hm
  refine zr_cSi (st := []) E mw_1027 cm_X6_isSheet (c_X6_isSheet B.2.1 P σ x1) os1 ⟨by decide, by decide⟩ rfl rfl (Nat.le_of_ble_eq_true rfl) dX6_judge_1 ?_
  refine zr_if_ne (tgt := 14) E dX6_judge_4 (by decide) (fun c3 => ?_) (fun c3 => ?_)
  · rw [if_neg c3] at hm
    refine zr_aload_n E dX6_judge_14 0 rfl ?_
    refine fg_X6_47 E dX6_judge_15 ?_
    refine zr_iload_n E dX6_judge_18 1 rfl ?_
    obtain ⟨hz4, hm⟩ := tt_some hm
    refine zr_sheet E (zi_in hz4) dX6_judge_19 ?_
    obtain ⟨r6, s5, os5, hm⟩ := cl_some hm
    refine zr_cVi (st := []) E mw_1049 cm_X3_isMissing (c_X3_isMissing B.2.1 P (48 + 2 * x1.toNatClampNeg) (zw_sh_of hz4) s1) os5 (rc_sh P (zw_sh_of hz4)) ⟨by decide, by decide⟩ rfl rfl (Nat.le_of_ble_eq_true rfl) dX6_judge_20 ?_
    refine zr_if_eq (tgt := 33) E dX6_judge_23 (by decide) (fun c7 => ?_) (fun c7 => ?_)
    · rw [if_pos c7] at hm
      refine zr_iload_n E dX6_judge_33 2 rfl ?_
      refine zr_iconst (v := 0) E dX6_judge_34 (by decide) ?_
      refine zr_bipush (v := 60) E dX6_judge_35 (by decide) ?_
      obtain ⟨r9, s8, os8, hm⟩ := cl_some hm
      refine zr_cSi (st := []) E mw_103 cm_X6_isIn (c_X6_isIn B.2.1 P s5 x2 0 60) os8 ⟨by decide, by decide⟩ rfl rfl (Nat.le_of_ble_eq_true rfl) dX6_judge_37 ?_
      refine zr_if_ne (tgt := 50) E dX6_judge_40 (by decide) (fun c10 => ?_) (fun c10 => ?_)
      · rw [if_neg c10] at hm
        refine zr_aload_n E dX6_judge_50 0 rfl ?_
        refine zr_iload_n E dX6_judge_51 2 rfl ?_
        obtain ⟨r12, s11, os11, hm⟩ := cl_some hm
        refine zr_cVi (st := []) E mw_426 cm_X6_isTooLate (c_X6_isTooLate B.2.1 P s8 x2) os11 (rc_0 P) ⟨by decide, by decide⟩ rfl rfl (Nat.le_of_ble_eq_true rfl) dX6_judge_52 ?_
        refine zr_if_eq (tgt := 65) E dX6_judge_55 (by decide) (fun c13 => ?_) (fun c13 => ?_)
        · rw [if_pos c13] at hm
          refine zr_aload_n E dX6_judge_65 0 rfl ?_
          refine zr_iload_n E dX6_judge_66 2 rfl ?_
          obtain ⟨s14, os14, hm⟩ := cv_some hm
          refine zr_cVv (st := []) E mw_550 cm_X6_lookAhead (c_X6_lookAhead B.2.1 P s11 x2) os14 (rc_0 P) ⟨by decide, by decide⟩ rfl rfl (Nat.le_of_ble_eq_true rfl) dX6_judge_67 ?_
          refine zr_aload_n E dX6_judge_70 0 rfl ?_
          refine fg_X6_47 E dX6_judge_71 ?_
          refine zr_iload_n E dX6_judge_74 1 rfl ?_
          obtain ⟨hz15, hm⟩ := tt_some hm
          refine zr_sheet E (zi_in hz15) dX6_judge_75 ?_
          refine fg_X6_251 (zw_sh_of hz15) E dX6_judge_76 ?_
          refine zr_aload_n E dX6_judge_79 0 rfl ?_
          refine fg_X6_19 E dX6_judge_80 ?_
          refine fg_X6_77 bk_25 E dX6_judge_83 ?_
          refine zr_min (h := 5) E mw_1080 mM_min_1 mM_min_2 mM_min_3 (Nat.le_of_ble_eq_true rfl) dX6_judge_86 ?_
          obtain ⟨v16, ev16, hm⟩ := nm_some hm
          refine zr_top ev16 ?_
          refine zr_istore_n (lv' := [(3, .int v16), (0, .ref (zw_ad P 0)), (1, .int x1), (2, .int x2)]) E dX6_judge_89 (by decide) rfl ?_
          refine zr_iconst (v := 0) E dX6_judge_90 (by decide) ?_
          refine zr_istore (lv' := [(4, .int 0), (3, .int v16), (0, .ref (zw_ad P 0)), (1, .int x1), (2, .int x2)]) E dX6_judge_91 (by decide) rfl ?_
          refine zr_sub (lv' := [(0, .ref (zw_ad P 0)), (1, .int x1), (3, .int v16), (4, .int 0)]) [2, 3, 1, 0] rfl ?_
          exact t_X6_judge_93 E hr 200 s14 x1 v16 0 hm
        · rw [if_neg c13] at hm
          refine zr_aload_n E dX6_judge_58 0 rfl ?_
          refine zr_ldc E mw_380 dX6_judge_59 ?_
          obtain ⟨r18, s17, os17, hm⟩ := cl_some hm
          refine zr_cVi (st := []) E mw_106 cm_X6_found (c_X6_found B.2.1 P s11 (-1000005)) os17 (rc_0 P) ⟨by decide, by decide⟩ rfl rfl (Nat.le_of_ble_eq_true rfl) dX6_judge_61 ?_
          exact zr_iret E hr rfl hm dX6_judge_64
      · rw [if_pos c10] at hm
        refine zr_aload_n E dX6_judge_43 0 rfl ?_
        refine zr_ldc E mw_98 dX6_judge_44 ?_
        obtain ⟨r20, s19, os19, hm⟩ := cl_some hm
        refine zr_cVi (st := []) E mw_106 cm_X6_found (c_X6_found B.2.1 P s8 (-1000001)) os19 (rc_0 P) ⟨by decide, by decide⟩ rfl rfl (Nat.le_of_ble_eq_true rfl) dX6_judge_46 ?_
        exact zr_iret E hr rfl hm dX6_judge_49
    · rw [if_neg c7] at hm
      refine zr_aload_n E dX6_judge_26 0 rfl ?_
      refine zr_ldc E mw_1011 dX6_judge_27 ?_
      obtain ⟨r22, s21, os21, hm⟩ := cl_some hm
      refine zr_cVi (st := []) E mw_106 cm_X6_found (c_X6_found B.2.1 P s5 (-1000006)) os21 (rc_0 P) ⟨by decide, by decide⟩ rfl rfl (Nat.le_of_ble_eq_true rfl) dX6_judge_29 ?_
      exact zr_iret E hr rfl hm dX6_judge_32
  · rw [if_pos c3] at hm
    refine zr_aload_n E dX6_judge_7 0 rfl ?_
    refine zr_ldc E mw_98 dX6_judge_8 ?_
    obtain ⟨r24, s23, os23, hm⟩ := cl_some hm
    refine zr_cVi (st := []) E mw_106 cm_X6_found (c_X6_found B.2.1 P s1 (-1000001)) os23 (rc_0 P) ⟨by decide, by decide⟩ rfl rfl (Nat.le_of_ble_eq_true rfl) dX6_judge_10 ?_
    exact zr_iret E hr rfl hm dX6_judge_13
-- X6_image
set_option maxRecDepth 100000 in
set_option maxHeartbeats 4000000 in
theorem c_X6_image (l : Launch) (P : zw_P) (σ : zw_S) : zc_i l P yX6_image cX6_image 1 .int 2 [.ref (zw_ad P 0)] σ (m_X6_image σ) := by
  refine zc_i.of (by decide) (Nat.le_of_ble_eq_true rfl) (fun B r τ E hl hr hm => ?_)
  subst hl
  refine zr_sub (lv' := [(0, .ref (zw_ad P 0))]) [0] rfl ?_
  unfold m_X6_image at hm
  refine zr_aload_n E dX6_image_0 0 rfl ?_
  refine fg_X6_16 E dX6_image_1 ?_
  refine zr_aload_n E dX6_image_4 0 rfl ?_
  refine fg_X6_12 E dX6_image_5 ?_
  obtain ⟨s1, os1, hm⟩ := cv_some hm
  refine zr_cVv (st := []) E mw_554 cm_X0_setTo (c_X0_setTo B.2.1 P 13 1 bk_13 bk_1 σ) os1 (rc_bk P bk_13) ⟨by decide, by decide⟩ rfl rfl (Nat.le_of_ble_eq_true rfl) dX6_image_8 ?_
  refine zr_aload_n E dX6_image_11 0 rfl ?_
  refine zr_iconst (v := 1) E dX6_image_12 (by decide) ?_
  obtain ⟨s2, es2, hm⟩ := nm_some hm
  refine fp_X6_278 (by decide) E es2 dX6_image_13 ?_
  refine zr_iconst (v := 1) E dX6_image_16 (by decide) ?_
  exact zr_iret E hr rfl hm dX6_image_17
-- X6_undo
set_option maxRecDepth 100000 in
set_option maxHeartbeats 4000000 in
theorem c_X6_undo (l : Launch) (P : zw_P) (σ : zw_S) : zc_i l P yX6_undo cX6_undo 1 .int 2 [.ref (zw_ad P 0)] σ (m_X6_undo σ) := by
  refine zc_i.of (by decide) (Nat.le_of_ble_eq_true rfl) (fun B r τ E hl hr hm => ?_)
  subst hl
  refine zr_sub (lv' := [(0, .ref (zw_ad P 0))]) [0] rfl ?_
  unfold m_X6_undo at hm
  refine zr_aload_n E dX6_undo_0 0 rfl ?_
  refine fg_X6_278 E dX6_undo_1 ?_
  refine zr_if_ne (tgt := 14) E dX6_undo_4 (by decide) (fun c1 => ?_) (fun c1 => ?_)
  · rw [if_neg c1] at hm
    refine zr_aload_n E dX6_undo_14 0 rfl ?_
    refine fg_X6_12 E dX6_undo_15 ?_
    refine zr_aload_n E dX6_undo_18 0 rfl ?_
    refine fg_X6_16 E dX6_undo_19 ?_
    obtain ⟨s2, os2, hm⟩ := cv_some hm
    refine zr_cVv (st := []) E mw_554 cm_X0_setTo (c_X0_setTo B.2.1 P 1 13 bk_1 bk_13 σ) os2 (rc_bk P bk_1) ⟨by decide, by decide⟩ rfl rfl (Nat.le_of_ble_eq_true rfl) dX6_undo_22 ?_
    refine zr_aload_n E dX6_undo_25 0 rfl ?_
    refine fg_X6_12 E dX6_undo_26 ?_
    refine fg_X6_282 bk_1 E dX6_undo_29 ?_
    exact zr_iret E hr rfl hm dX6_undo_32
  · rw [if_pos c1] at hm
    refine zr_aload_n E dX6_undo_7 0 rfl ?_
    refine zr_ldc E mw_608 dX6_undo_8 ?_
    obtain ⟨r4, s3, os3, hm⟩ := cl_some hm
    refine zr_cVi (st := []) E mw_106 cm_X6_found (c_X6_found B.2.1 P σ (-1000004)) os3 (rc_0 P) ⟨by decide, by decide⟩ rfl rfl (Nat.le_of_ble_eq_true rfl) dX6_undo_10 ?_
    exact zr_iret E hr rfl hm dX6_undo_13
-- X6_tear
set_option maxRecDepth 100000 in
set_option maxHeartbeats 4000000 in
theorem c_X6_tear (l : Launch) (P : zw_P) (σ : zw_S) : zc_i l P yX6_tear cX6_tear 2 .int 0 [.ref (zw_ad P 0)] σ (m_X6_tear σ) := by
  refine zc_i.of (by decide) (Nat.le_of_ble_eq_true rfl) (fun B r τ E hl hr hm => ?_)
  subst hl
  refine zr_sub (lv' := [(0, .ref (zw_ad P 0))]) [0] rfl ?_
  unfold m_X6_tear at hm
  refine zr_aload_n E dX6_tear_0 0 rfl ?_
  refine fg_X6_278 E dX6_tear_1 ?_
  refine zr_if_eq (tgt := 11) E dX6_tear_4 (by decide) (fun c1 => ?_) (fun c1 => ?_)
  · rw [if_pos c1] at hm
    refine zr_iconst (v := 0) E dX6_tear_11 (by decide) ?_
    refine zr_istore_n (lv' := [(1, .int 0), (0, .ref (zw_ad P 0))]) E dX6_tear_12 (by decide) rfl ?_
    refine zr_aload_n E dX6_tear_13 1 rfl ?_
    refine zr_iconst (v := 0) E dX6_tear_14 (by decide) ?_
    obtain ⟨s2, es2, hm⟩ := nm_some hm
    refine fp_X6_278 (by decide) E es2 dX6_tear_15 ?_
    refine zr_iload_n E dX6_tear_18 0 rfl ?_
    exact zr_iret E hr rfl hm dX6_tear_19
  · rw [if_neg c1] at hm
    refine zr_iconst (v := 1) E dX6_tear_7 (by decide) ?_
    refine zr_goto (tgt := 12) E dX6_tear_8 (by decide) ?_
    refine zr_istore_n (lv' := [(1, .int 1), (0, .ref (zw_ad P 0))]) E dX6_tear_12 (by decide) rfl ?_
    refine zr_aload_n E dX6_tear_13 1 rfl ?_
    refine zr_iconst (v := 0) E dX6_tear_14 (by decide) ?_
    obtain ⟨s3, es3, hm⟩ := nm_some hm
    refine fp_X6_278 (by decide) E es3 dX6_tear_15 ?_
    refine zr_iload_n E dX6_tear_18 0 rfl ?_
    exact zr_iret E hr rfl hm dX6_tear_19
-- X6_count
set_option maxRecDepth 100000 in
set_option maxHeartbeats 4000000 in
theorem c_X6_count (l : Launch) (P : zw_P) (σ : zw_S) (x1 : Int32) : zc_i l P yX6_count cX6_count 2 .int 2 [.ref (zw_ad P 0), .int x1] σ (m_X6_count σ x1) := by
  refine zc_i.of (by decide) (Nat.le_of_ble_eq_true rfl) (fun B r τ E hl hr hm => ?_)
  subst hl
  refine zr_sub (lv' := [(0, .ref (zw_ad P 0)), (1, .int x1)]) [0, 1] rfl ?_
  unfold m_X6_count at hm
  refine zr_iload_n E dX6_count_0 1 rfl ?_
  by_cases c1 : x1 = 0
  · rw [if_pos c1] at hm
    refine zr_tabIn (tgt := 48) E dX6_count_1 c1 (by decide) (by decide) rfl (by decide) ?_
    refine zr_aload_n E dX6_count_48 0 rfl ?_
    refine fg_X6_12 E dX6_count_49 ?_
    refine fg_X6_282 bk_1 E dX6_count_52 ?_
    exact zr_iret E hr rfl hm dX6_count_55
  · rw [if_neg c1] at hm
    by_cases c2 : x1 = 1
    · rw [if_pos c2] at hm
      refine zr_tabIn (tgt := 56) E dX6_count_1 c2 (by decide) (by decide) rfl (by decide) ?_
      refine zr_aload_n E dX6_count_56 0 rfl ?_
      refine fg_X6_12 E dX6_count_57 ?_
      refine fg_X6_77 bk_1 E dX6_count_60 ?_
      exact zr_iret E hr rfl hm dX6_count_63
    · rw [if_neg c2] at hm
      by_cases c3 : x1 = 2
      · rw [if_pos c3] at hm
        refine zr_tabIn (tgt := 64) E dX6_count_1 c3 (by decide) (by decide) rfl (by decide) ?_
        refine zr_aload_n E dX6_count_64 0 rfl ?_
        refine fg_X6_12 E dX6_count_65 ?_
        refine fg_X6_77 bk_1 E dX6_count_68 ?_
        refine zr_aload_n E dX6_count_71 0 rfl ?_
        refine fg_X6_12 E dX6_count_72 ?_
        obtain ⟨r5, s4, os4, hm⟩ := cl_some hm
        refine zr_cVi (st := [.int (σ 1 2)]) E mw_431 cm_X0_endedTasks (c_X0_endedTasks B.2.1 P 1 bk_1 σ) os4 (rc_bk P bk_1) ⟨by decide, by decide⟩ rfl rfl (Nat.le_of_ble_eq_true rfl) dX6_count_75 ?_
        refine zr_isub E dX6_count_78 ?_
        exact zr_iret E hr rfl hm dX6_count_79
      · rw [if_neg c3] at hm
        by_cases c6 : x1 = 3
        · rw [if_pos c6] at hm
          refine zr_tabIn (tgt := 80) E dX6_count_1 c6 (by decide) (by decide) rfl (by decide) ?_
          refine zr_aload_n E dX6_count_80 0 rfl ?_
          refine fg_X6_12 E dX6_count_81 ?_
          refine fg_X6_126 bk_1 E dX6_count_84 ?_
          exact zr_iret E hr rfl hm dX6_count_87
        · rw [if_neg c6] at hm
          by_cases c7 : x1 = 4
          · rw [if_pos c7] at hm
            refine zr_tabIn (tgt := 88) E dX6_count_1 c7 (by decide) (by decide) rfl (by decide) ?_
            refine zr_aload_n E dX6_count_88 0 rfl ?_
            refine fg_X6_12 E dX6_count_89 ?_
            obtain ⟨r9, s8, os8, hm⟩ := cl_some hm
            refine zr_cVi (st := []) E mw_567 cm_X0_endedWorth (c_X0_endedWorth B.2.1 P 1 bk_1 σ) os8 (rc_bk P bk_1) ⟨by decide, by decide⟩ rfl rfl (Nat.le_of_ble_eq_true rfl) dX6_count_92 ?_
            exact zr_iret E hr rfl hm dX6_count_95
          · rw [if_neg c7] at hm
            by_cases c10 : x1 = 5
            · rw [if_pos c10] at hm
              refine zr_tabIn (tgt := 96) E dX6_count_1 c10 (by decide) (by decide) rfl (by decide) ?_
              refine zr_aload_n E dX6_count_96 0 rfl ?_
              refine fg_X6_12 E dX6_count_97 ?_
              obtain ⟨r12, s11, os11, hm⟩ := cl_some hm
              refine zr_cVi (st := []) E mw_562 cm_X0_hoursOfAll (c_X0_hoursOfAll B.2.1 P 1 bk_1 σ) os11 (rc_bk P bk_1) ⟨by decide, by decide⟩ rfl rfl (Nat.le_of_ble_eq_true rfl) dX6_count_100 ?_
              exact zr_iret E hr rfl hm dX6_count_103
            · rw [if_neg c10] at hm
              by_cases c13 : x1 = 6
              · rw [if_pos c13] at hm
                refine zr_tabIn (tgt := 104) E dX6_count_1 c13 (by decide) (by decide) rfl (by decide) ?_
                refine zr_aload_n E dX6_count_104 0 rfl ?_
                refine fg_X6_41 E dX6_count_105 ?_
                refine fg_X6_285 E dX6_count_108 ?_
                exact zr_iret E hr rfl hm dX6_count_111
              · rw [if_neg c13] at hm
                by_cases c14 : x1 = 7
                · rw [if_pos c14] at hm
                  refine zr_tabIn (tgt := 112) E dX6_count_1 c14 (by decide) (by decide) rfl (by decide) ?_
                  refine zr_aload_n E dX6_count_112 0 rfl ?_
                  refine fg_X6_12 E dX6_count_113 ?_
                  refine fg_X6_216 bk_1 E dX6_count_116 ?_
                  exact zr_iret E hr rfl hm dX6_count_119
                · rw [if_neg c14] at hm
                  refine zr_tabOut (tgt := 120) E dX6_count_1 (sw_out (0) 8 (by decide) (by decide) (fun j hj => by match j, hj with | 0, _ => exact c1 | 1, _ => exact c2 | 2, _ => exact c3 | 3, _ => exact c6 | 4, _ => exact c7 | 5, _ => exact c10 | 6, _ => exact c13 | 7, _ => exact c14 | (j + 8), hj => exact absurd hj (by omega)) _ (by decide)) (by decide) ?_
                  refine zr_aload_n E dX6_count_120 0 rfl ?_
                  refine zr_ldc E mw_98 dX6_count_121 ?_
                  obtain ⟨r16, s15, os15, hm⟩ := cl_some hm
                  refine zr_cVi (st := []) E mw_106 cm_X6_found (c_X6_found B.2.1 P σ (-1000001)) os15 (rc_0 P) ⟨by decide, by decide⟩ rfl rfl (Nat.le_of_ble_eq_true rfl) dX6_count_123 ?_
                  exact zr_iret E hr rfl hm dX6_count_126
-- X6_status
set_option maxRecDepth 100000 in
set_option maxHeartbeats 4000000 in
theorem t_X6_status_32 {B : zw_B} {P : zw_P} {r : Int32} {τ : zw_S} (E : zf B P cX6_status RX6 4 2) (hr : B.2.2.2.2.2.2.2.2.1.sig.returnType = some .int) : ∀ (n : Nat) (σ : zw_S) (x2 : Int32) (x3 : Int32), m_X6_status_32 n σ x2 x3 = some (r, τ) → zw_G B P (zq_i B P r τ) 4 σ 32 [(0, .ref (zw_ad P 0)), (2, .int x2), (3, .int x3)] [] := by
  intro n
  induction n with
  | zero => intro σ x2 x3 hm; cases hm
  | succ n ih =>
    intro σ x2 x3 hm
    unfold m_X6_status_32 at hm
    refine zr_iload_n E dX6_status_32 2 rfl ?_
    refine zr_bipush (v := 7) E dX6_status_33 (by decide) ?_
    refine zr_icmp_ge (tgt := 53) E dX6_status_35 (by decide) (fun c1 => ?_) (fun c1 => ?_)
    · rw [if_pos c1] at hm
      refine zr_iload_n E dX6_status_53 1 rfl ?_
      exact zr_iret E hr rfl hm dX6_status_54
    · rw [if_neg c1] at hm
      refine zr_iload_n E dX6_status_38 1 rfl ?_
      refine zr_aload_n E dX6_status_39 0 rfl ?_
      refine fg_X6_51 E dX6_status_40 ?_
      refine zr_iload_n E dX6_status_43 2 rfl ?_
      obtain ⟨hv2, v2, ev2, hm⟩ := rd_some hm
      refine zr_iald E ac_56 hv2 ev2 dX6_status_44 ?_
      refine zr_iadd E dX6_status_45 ?_
      obtain ⟨v3, ev3, hm⟩ := nm_some hm
      refine zr_top ev3 ?_
      refine zr_istore_n (lv' := [(2, .int v3), (0, .ref (zw_ad P 0)), (3, .int x3)]) E dX6_status_46 (by decide) rfl ?_
      obtain ⟨v4, ev4, hm⟩ := nm_some hm
      refine zr_iinc (j := 2) (lv' := [(3, .int v4), (2, .int v3), (0, .ref (zw_ad P 0))]) E dX6_status_47 rfl ev4 (by decide) rfl ?_
      refine zr_goto (tgt := 32) E dX6_status_50 (by decide) ?_
      refine zr_sub (lv' := [(0, .ref (zw_ad P 0)), (2, .int v3), (3, .int v4)]) [2, 1, 0] rfl ?_
      exact ih σ v3 v4 hm
set_option maxRecDepth 100000 in
set_option maxHeartbeats 4000000 in
theorem c_X6_status (l : Launch) (P : zw_P) (σ : zw_S) (x1 : Int32) : zc_i l P yX6_status cX6_status 4 .int 2 [.ref (zw_ad P 0), .int x1] σ (m_X6_status σ x1) := by
  refine zc_i.of (by decide) (Nat.le_of_ble_eq_true rfl) (fun B r τ E hl hr hm => ?_)
  subst hl
  refine zr_sub (lv' := [(0, .ref (zw_ad P 0)), (1, .int x1)]) [0, 1] rfl ?_
  unfold m_X6_status at hm
  refine zr_iload_n E dX6_status_0 1 rfl ?_
  refine zr_iconst (v := (-1)) E dX6_status_1 (by decide) ?_
  refine zr_bipush (v := 6) E dX6_status_2 (by decide) ?_
  obtain ⟨r2, s1, os1, hm⟩ := cl_some hm
  refine zr_cSi (st := []) E mw_103 cm_X6_isIn (c_X6_isIn B.2.1 P σ x1 (-1) 6) os1 ⟨by decide, by decide⟩ rfl rfl (Nat.le_of_ble_eq_true rfl) dX6_status_4 ?_
  refine zr_if_ne (tgt := 17) E dX6_status_7 (by decide) (fun c3 => ?_) (fun c3 => ?_)
  · rw [if_neg c3] at hm
    refine zr_iload_n E dX6_status_17 1 rfl ?_
    refine zr_if_lt (tgt := 28) E dX6_status_18 (by decide) (fun c4 => ?_) (fun c4 => ?_)
    · rw [if_pos c4] at hm
      refine zr_iconst (v := 0) E dX6_status_28 (by decide) ?_
      refine zr_istore_n (lv' := [(2, .int 0), (0, .ref (zw_ad P 0)), (1, .int x1)]) E dX6_status_29 (by decide) rfl ?_
      refine zr_iconst (v := 0) E dX6_status_30 (by decide) ?_
      refine zr_istore_n (lv' := [(3, .int 0), (2, .int 0), (0, .ref (zw_ad P 0)), (1, .int x1)]) E dX6_status_31 (by decide) rfl ?_
      refine zr_sub (lv' := [(0, .ref (zw_ad P 0)), (2, .int 0), (3, .int 0)]) [2, 1, 0] rfl ?_
      exact t_X6_status_32 E hr 200 s1 0 0 hm
    · rw [if_neg c4] at hm
      refine zr_aload_n E dX6_status_21 0 rfl ?_
      refine fg_X6_51 E dX6_status_22 ?_
      refine zr_iload_n E dX6_status_25 1 rfl ?_
      obtain ⟨hv5, v5, ev5, hm⟩ := rd_some hm
      refine zr_iald E ac_56 hv5 ev5 dX6_status_26 ?_
      exact zr_iret E hr rfl hm dX6_status_27
  · rw [if_pos c3] at hm
    refine zr_aload_n E dX6_status_10 0 rfl ?_
    refine zr_ldc E mw_98 dX6_status_11 ?_
    obtain ⟨r7, s6, os6, hm⟩ := cl_some hm
    refine zr_cVi (st := []) E mw_106 cm_X6_found (c_X6_found B.2.1 P s1 (-1000001)) os6 (rc_0 P) ⟨by decide, by decide⟩ rfl rfl (Nat.le_of_ble_eq_true rfl) dX6_status_13 ?_
    exact zr_iret E hr rfl hm dX6_status_16
