-- X5_workOn
set_option maxRecDepth 100000 in
set_option maxHeartbeats 4000000 in
theorem c_X5_workOn (l : Launch) (P : zw_P) (b1 : Nat) (hb1 : zw_bk b1 = true) (σ : zw_S) (x2 : Int32) (x3 : Int32) : zc_v l P yX5_workOn cX5_workOn 4 2 [.ref (zw_ad P 37), .ref (zw_ad P b1), .int x2, .int x3] σ (m_X5_workOn b1 σ x2 x3) := by
  refine zc_v.of (by decide) (Nat.le_of_ble_eq_true rfl) (fun B τ E hl hr hm => ?_)
  subst hl
  refine zr_sub (lv' := [(0, .ref (zw_ad P 37)), (1, .ref (zw_ad P b1)), (2, .int x2), (3, .int x3)]) [0, 1, 2, 3] rfl ?_
  unfold m_X5_workOn at hm
  refine zr_iload_n E dX5_workOn_0 2 rfl ?_
  refine zr_if_ge (tgt := 5) E dX5_workOn_1 (by decide) (fun c1 => ?_) (fun c1 => ?_)
  · rw [if_pos c1] at hm
    refine zr_aload_n E dX5_workOn_5 1 rfl ?_
    refine fg_X5_57 hb1 E dX5_workOn_6 ?_
    refine zr_iload_n E dX5_workOn_9 2 rfl ?_
    refine zr_iconst (v := 0) E dX5_workOn_10 (by decide) ?_
    refine zr_aload_n E dX5_workOn_11 1 rfl ?_
    refine fg_X5_57 hb1 E dX5_workOn_12 ?_
    refine zr_iload_n E dX5_workOn_15 2 rfl ?_
    obtain ⟨hv2, v2, ev2, hm⟩ := rd_some hm
    refine zr_iald E (ab_5 hb1) hv2 ev2 dX5_workOn_16 ?_
    refine zr_aload_n E dX5_workOn_17 1 rfl ?_
    refine zr_iload_n E dX5_workOn_18 2 rfl ?_
    refine zr_iload_n E dX5_workOn_19 3 rfl ?_
    obtain ⟨r4, s3, os3, hm⟩ := cl_some hm
    refine zr_cVi (st := [.int v2, .int 0, .int x2, .ref (zw_ad P ((b1 + 5)))]) E mw_461 cm_X0_workOf (c_X0_workOf B.2.1 P b1 hb1 σ x2 x3) os3 (rc_bk P hb1) ⟨by decide, by decide⟩ rfl rfl (Nat.le_of_ble_eq_true rfl) dX5_workOn_20 ?_
    refine zr_isub E dX5_workOn_23 ?_
    refine zr_max (h := 1) E mw_457 mM_max_1 mM_max_2 mM_max_3 (Nat.le_of_ble_eq_true rfl) dX5_workOn_24 ?_
    obtain ⟨hs5, s5, es5, hm⟩ := wt_some hm
    refine zr_iast E (ab_5 hb1) hs5 es5 dX5_workOn_27 ?_
    refine zr_aload_n E dX5_workOn_28 1 rfl ?_
    refine fg_X5_57 hb1 E dX5_workOn_29 ?_
    refine zr_iload_n E dX5_workOn_32 2 rfl ?_
    obtain ⟨hv6, v6, ev6, hm⟩ := rd_some hm
    refine zr_iald E (ab_5 hb1) hv6 ev6 dX5_workOn_33 ?_
    refine zr_if_ne (tgt := 45) E dX5_workOn_34 (by decide) (fun c7 => ?_) (fun c7 => ?_)
    · rw [if_neg c7] at hm
      exact zr_vret E hr hm dX5_workOn_45
    · rw [if_pos c7] at hm
      refine zr_aload_n E dX5_workOn_37 1 rfl ?_
      refine zr_aload_n E dX5_workOn_38 0 rfl ?_
      refine fg_X5_9 E dX5_workOn_39 ?_
      obtain ⟨s8, os8, hm⟩ := cv_some hm
      refine zr_cVv (st := []) E mw_440 cm_X0_findHands (c_X0_findHands B.2.1 P b1 38 8 hb1 ac_38 s5) os8 (rc_bk P hb1) ⟨by decide, by decide⟩ rfl rfl (Nat.le_of_ble_eq_true rfl) dX5_workOn_42 ?_
      exact zr_vret E hr hm dX5_workOn_45
  · rw [if_neg c1] at hm
    exact zr_vret E hr hm dX5_workOn_4
-- X5_bearersWork
set_option maxRecDepth 100000 in
set_option maxHeartbeats 4000000 in
theorem t_X5_bearersWork_2 {B : zw_B} {P : zw_P} {τ : zw_S} (b1 : Nat) (hb1 : zw_bk b1 = true) (E : zf B P cX5_bearersWork RX5 3 3) (hr : B.2.2.2.2.2.2.2.2.1.sig.returnType = none) : ∀ (n : Nat) (σ : zw_S) (x2 : Int32), m_X5_bearersWork_2 b1 n σ x2 = some τ → zw_G B P (zq_v B P τ) 3 σ 2 [(0, .ref (zw_ad P 37)), (1, .ref (zw_ad P b1)), (2, .int x2)] [] := by
  intro n
  induction n with
  | zero => intro σ x2 hm; cases hm
  | succ n ih =>
    intro σ x2 hm
    unfold m_X5_bearersWork_2 at hm
    refine zr_iload_n E dX5_bearersWork_2 2 rfl ?_
    refine zr_aload_n E dX5_bearersWork_3 1 rfl ?_
    refine fg_X5_38 hb1 E dX5_bearersWork_4 ?_
    refine zr_icmp_ge (tgt := 58) E dX5_bearersWork_7 (by decide) (fun c1 => ?_) (fun c1 => ?_)
    · rw [if_pos c1] at hm
      exact zr_vret E hr hm dX5_bearersWork_58
    · rw [if_neg c1] at hm
      refine zr_aload_n E dX5_bearersWork_10 1 rfl ?_
      refine fg_X5_41 hb1 E dX5_bearersWork_11 ?_
      refine zr_iload_n E dX5_bearersWork_14 2 rfl ?_
      obtain ⟨hv2, v2, ev2, hm⟩ := rd_some hm
      refine zr_iald E (ab_7 hb1) hv2 ev2 dX5_bearersWork_15 ?_
      refine zr_if_lt (tgt := 52) E dX5_bearersWork_16 (by decide) (fun c3 => ?_) (fun c3 => ?_)
      · rw [if_pos c3] at hm
        obtain ⟨v4, ev4, hm⟩ := nm_some hm
        refine zr_iinc (j := 2) (lv' := [(2, .int v4), (0, .ref (zw_ad P 37)), (1, .ref (zw_ad P b1))]) E dX5_bearersWork_52 rfl ev4 (by decide) rfl ?_
        refine zr_goto (tgt := 2) E dX5_bearersWork_55 (by decide) ?_
        refine zr_sub (lv' := [(0, .ref (zw_ad P 37)), (1, .ref (zw_ad P b1)), (2, .int v4)]) [1, 2, 0] rfl ?_
        exact ih σ v4 hm
      · rw [if_neg c3] at hm
        refine zr_aload_n E dX5_bearersWork_19 1 rfl ?_
        refine fg_X5_44 hb1 E dX5_bearersWork_20 ?_
        refine zr_iload_n E dX5_bearersWork_23 2 rfl ?_
        obtain ⟨hv5, v5, ev5, hm⟩ := rd_some hm
        refine zr_iald E (ab_8 hb1) hv5 ev5 dX5_bearersWork_24 ?_
        refine zr_bipush (v := 7) E dX5_bearersWork_25 (by decide) ?_
        refine zr_icmp_lt (tgt := 52) E dX5_bearersWork_27 (by decide) (fun c6 => ?_) (fun c6 => ?_)
        · rw [if_pos c6] at hm
          obtain ⟨v7, ev7, hm⟩ := nm_some hm
          refine zr_iinc (j := 2) (lv' := [(2, .int v7), (0, .ref (zw_ad P 37)), (1, .ref (zw_ad P b1))]) E dX5_bearersWork_52 rfl ev7 (by decide) rfl ?_
          refine zr_goto (tgt := 2) E dX5_bearersWork_55 (by decide) ?_
          refine zr_sub (lv' := [(0, .ref (zw_ad P 37)), (1, .ref (zw_ad P b1)), (2, .int v7)]) [1, 2, 0] rfl ?_
          exact ih σ v7 hm
        · rw [if_neg c6] at hm
          refine zr_aload_n E dX5_bearersWork_30 0 rfl ?_
          refine zr_aload_n E dX5_bearersWork_31 1 rfl ?_
          refine zr_aload_n E dX5_bearersWork_32 0 rfl ?_
          refine fg_X5_9 E dX5_bearersWork_33 ?_
          refine zr_aload_n E dX5_bearersWork_36 1 rfl ?_
          refine fg_X5_41 hb1 E dX5_bearersWork_37 ?_
          refine zr_iload_n E dX5_bearersWork_40 2 rfl ?_
          obtain ⟨hv8, v8, ev8, hm⟩ := rd_some hm
          refine zr_iald E (ab_7 hb1) hv8 ev8 dX5_bearersWork_41 ?_
          obtain ⟨hv9, v9, ev9, hm⟩ := rd_some hm
          refine zr_iald E ac_38 hv9 ev9 dX5_bearersWork_42 ?_
          refine zr_aload_n E dX5_bearersWork_43 1 rfl ?_
          refine fg_X5_47 hb1 E dX5_bearersWork_44 ?_
          refine zr_iload_n E dX5_bearersWork_47 2 rfl ?_
          obtain ⟨hv10, v10, ev10, hm⟩ := rd_some hm
          refine zr_iald E (ab_9 hb1) hv10 ev10 dX5_bearersWork_48 ?_
          obtain ⟨s11, os11, hm⟩ := cv_some hm
          refine zr_cVv (st := []) E mw_452 cm_X5_workOn (c_X5_workOn B.2.1 P b1 hb1 σ v9 v10) os11 (rc_37 P) ⟨by decide, by decide⟩ rfl rfl (Nat.le_of_ble_eq_true rfl) dX5_bearersWork_49 ?_
          obtain ⟨v12, ev12, hm⟩ := nm_some hm
          refine zr_iinc (j := 2) (lv' := [(2, .int v12), (0, .ref (zw_ad P 37)), (1, .ref (zw_ad P b1))]) E dX5_bearersWork_52 rfl ev12 (by decide) rfl ?_
          refine zr_goto (tgt := 2) E dX5_bearersWork_55 (by decide) ?_
          refine zr_sub (lv' := [(0, .ref (zw_ad P 37)), (1, .ref (zw_ad P b1)), (2, .int v12)]) [1, 2, 0] rfl ?_
          exact ih s11 v12 hm
set_option maxRecDepth 100000 in
set_option maxHeartbeats 4000000 in
theorem c_X5_bearersWork (l : Launch) (P : zw_P) (b1 : Nat) (hb1 : zw_bk b1 = true) (σ : zw_S) : zc_v l P yX5_bearersWork cX5_bearersWork 3 3 [.ref (zw_ad P 37), .ref (zw_ad P b1)] σ (m_X5_bearersWork b1 σ) := by
  refine zc_v.of (by decide) (Nat.le_of_ble_eq_true rfl) (fun B τ E hl hr hm => ?_)
  subst hl
  refine zr_sub (lv' := [(0, .ref (zw_ad P 37)), (1, .ref (zw_ad P b1))]) [0, 1] rfl ?_
  unfold m_X5_bearersWork at hm
  refine zr_iconst (v := 0) E dX5_bearersWork_0 (by decide) ?_
  refine zr_istore_n (lv' := [(2, .int 0), (0, .ref (zw_ad P 37)), (1, .ref (zw_ad P b1))]) E dX5_bearersWork_1 (by decide) rfl ?_
  refine zr_sub (lv' := [(0, .ref (zw_ad P 37)), (1, .ref (zw_ad P b1)), (2, .int 0)]) [1, 2, 0] rfl ?_
  exact t_X5_bearersWork_2 b1 hb1 E hr 200 σ 0 hm
-- X5_helpersWork
set_option maxRecDepth 100000 in
set_option maxHeartbeats 4000000 in
theorem t_X5_helpersWork_67 {B : zw_B} {P : zw_P} {τ : zw_S} (b1 : Nat) (hb1 : zw_bk b1 = true) (E : zf B P cX5_helpersWork RX5 4 3) (hr : B.2.2.2.2.2.2.2.2.1.sig.returnType = none) (R2 : zw_S → Int32 → Option zw_S) (hR2 : ∀ (σ : zw_S) (x2 : Int32), R2 σ x2 = some τ → zw_G B P (zq_v B P τ) 4 σ 2 [(0, .ref (zw_ad P 37)), (1, .ref (zw_ad P b1)), (2, .int x2)] []) (σ : zw_S) (x2 : Int32) (x3 : Int32) (hm : m_X5_helpersWork_67 b1 R2 σ x2 x3 = some τ) : zw_G B P (zq_v B P τ) 4 σ 67 [(0, .ref (zw_ad P 37)), (1, .ref (zw_ad P b1)), (2, .int x2), (3, .int x3)] [] := by
  unfold m_X5_helpersWork_67 at hm
  refine zr_aload_n E dX5_helpersWork_67 0 rfl ?_
  refine zr_aload_n E dX5_helpersWork_68 1 rfl ?_
  refine zr_aload_n E dX5_helpersWork_69 0 rfl ?_
  refine fg_X5_9 E dX5_helpersWork_70 ?_
  refine zr_aload_n E dX5_helpersWork_73 1 rfl ?_
  refine fg_X5_41 hb1 E dX5_helpersWork_74 ?_
  refine zr_iload_n E dX5_helpersWork_77 3 rfl ?_
  obtain ⟨hv1, v1, ev1, hm⟩ := rd_some hm
  refine zr_iald E (ab_7 hb1) hv1 ev1 dX5_helpersWork_78 ?_
  obtain ⟨hv2, v2, ev2, hm⟩ := rd_some hm
  refine zr_iald E ac_38 hv2 ev2 dX5_helpersWork_79 ?_
  refine zr_aload_n E dX5_helpersWork_80 1 rfl ?_
  refine fg_X5_47 hb1 E dX5_helpersWork_81 ?_
  refine zr_iload_n E dX5_helpersWork_84 2 rfl ?_
  obtain ⟨hv3, v3, ev3, hm⟩ := rd_some hm
  refine zr_iald E (ab_9 hb1) hv3 ev3 dX5_helpersWork_85 ?_
  refine zr_iconst (v := 2) E dX5_helpersWork_86 (by decide) ?_
  refine zr_idiv E dX5_helpersWork_87 (by decide) ?_
  obtain ⟨s4, os4, hm⟩ := cv_some hm
  refine zr_cVv (st := []) E mw_452 cm_X5_workOn (c_X5_workOn B.2.1 P b1 hb1 σ v2 (v3 / 2)) os4 (rc_37 P) ⟨by decide, by decide⟩ rfl rfl (Nat.le_of_ble_eq_true rfl) dX5_helpersWork_88 ?_
  obtain ⟨v5, ev5, hm⟩ := nm_some hm
  refine zr_iinc (j := 2) (lv' := [(2, .int v5), (0, .ref (zw_ad P 37)), (1, .ref (zw_ad P b1)), (3, .int x3)]) E dX5_helpersWork_91 rfl ev5 (by decide) rfl ?_
  refine zr_goto (tgt := 2) E dX5_helpersWork_94 (by decide) ?_
  refine zr_sub (lv' := [(0, .ref (zw_ad P 37)), (1, .ref (zw_ad P b1)), (2, .int v5)]) [1, 2, 0] rfl ?_
  exact hR2 s4 v5 hm
set_option maxRecDepth 100000 in
set_option maxHeartbeats 4000000 in
theorem t_X5_helpersWork_2 {B : zw_B} {P : zw_P} {τ : zw_S} (b1 : Nat) (hb1 : zw_bk b1 = true) (E : zf B P cX5_helpersWork RX5 4 3) (hr : B.2.2.2.2.2.2.2.2.1.sig.returnType = none) : ∀ (n : Nat) (σ : zw_S) (x2 : Int32), m_X5_helpersWork_2 b1 n σ x2 = some τ → zw_G B P (zq_v B P τ) 4 σ 2 [(0, .ref (zw_ad P 37)), (1, .ref (zw_ad P b1)), (2, .int x2)] [] := by
  intro n
  induction n with
  | zero => intro σ x2 hm; cases hm
  | succ n ih =>
    intro σ x2 hm
    unfold m_X5_helpersWork_2 at hm
    refine zr_iload_n E dX5_helpersWork_2 2 rfl ?_
    refine zr_aload_n E dX5_helpersWork_3 1 rfl ?_
    refine fg_X5_38 hb1 E dX5_helpersWork_4 ?_
    refine zr_icmp_ge (tgt := 97) E dX5_helpersWork_7 (by decide) (fun c1 => ?_) (fun c1 => ?_)
    · rw [if_pos c1] at hm
      exact zr_vret E hr hm dX5_helpersWork_97
    · rw [if_neg c1] at hm
      refine zr_aload_n E dX5_helpersWork_10 1 rfl ?_
      refine fg_X5_54 hb1 E dX5_helpersWork_11 ?_
      refine zr_iload_n E dX5_helpersWork_14 2 rfl ?_
      obtain ⟨hv2, v2, ev2, hm⟩ := rd_some hm
      refine zr_iald E (ab_10 hb1) hv2 ev2 dX5_helpersWork_15 ?_
      refine zr_istore_n (lv' := [(3, .int v2), (0, .ref (zw_ad P 37)), (1, .ref (zw_ad P b1)), (2, .int x2)]) E dX5_helpersWork_16 (by decide) rfl ?_
      refine zr_iload_n E dX5_helpersWork_17 0 rfl ?_
      refine zr_if_lt (tgt := 91) E dX5_helpersWork_18 (by decide) (fun c3 => ?_) (fun c3 => ?_)
      · rw [if_pos c3] at hm
        obtain ⟨v4, ev4, hm⟩ := nm_some hm
        refine zr_iinc (j := 3) (lv' := [(2, .int v4), (3, .int v2), (0, .ref (zw_ad P 37)), (1, .ref (zw_ad P b1))]) E dX5_helpersWork_91 rfl ev4 (by decide) rfl ?_
        refine zr_goto (tgt := 2) E dX5_helpersWork_94 (by decide) ?_
        refine zr_sub (lv' := [(0, .ref (zw_ad P 37)), (1, .ref (zw_ad P b1)), (2, .int v4)]) [2, 3, 0] rfl ?_
        exact ih σ v4 hm
      · rw [if_neg c3] at hm
        refine zr_aload_n E dX5_helpersWork_21 2 rfl ?_
        refine fg_X5_44 hb1 E dX5_helpersWork_22 ?_
        refine zr_iload_n E dX5_helpersWork_25 3 rfl ?_
        obtain ⟨hv5, v5, ev5, hm⟩ := rd_some hm
        refine zr_iald E (ab_8 hb1) hv5 ev5 dX5_helpersWork_26 ?_
        refine zr_bipush (v := 7) E dX5_helpersWork_27 (by decide) ?_
        refine zr_icmp_lt (tgt := 91) E dX5_helpersWork_29 (by decide) (fun c6 => ?_) (fun c6 => ?_)
        · rw [if_pos c6] at hm
          obtain ⟨v7, ev7, hm⟩ := nm_some hm
          refine zr_iinc (j := 3) (lv' := [(2, .int v7), (3, .int v2), (0, .ref (zw_ad P 37)), (1, .ref (zw_ad P b1))]) E dX5_helpersWork_91 rfl ev7 (by decide) rfl ?_
          refine zr_goto (tgt := 2) E dX5_helpersWork_94 (by decide) ?_
          refine zr_sub (lv' := [(0, .ref (zw_ad P 37)), (1, .ref (zw_ad P b1)), (2, .int v7)]) [2, 3, 0] rfl ?_
          exact ih σ v7 hm
        · rw [if_neg c6] at hm
          refine zr_aload_n E dX5_helpersWork_32 2 rfl ?_
          refine fg_X5_41 hb1 E dX5_helpersWork_33 ?_
          refine zr_iload_n E dX5_helpersWork_36 0 rfl ?_
          obtain ⟨hv8, v8, ev8, hm⟩ := rd_some hm
          refine zr_iald E (ab_7 hb1) hv8 ev8 dX5_helpersWork_37 ?_
          refine zr_if_ge (tgt := 44) E dX5_helpersWork_38 (by decide) (fun c9 => ?_) (fun c9 => ?_)
          · rw [if_pos c9] at hm
            refine zr_aload_n E dX5_helpersWork_44 2 rfl ?_
            refine fg_X5_41 hb1 E dX5_helpersWork_45 ?_
            refine zr_iload_n E dX5_helpersWork_48 3 rfl ?_
            obtain ⟨hv10, v10, ev10, hm⟩ := rd_some hm
            refine zr_iald E (ab_7 hb1) hv10 ev10 dX5_helpersWork_49 ?_
            refine zr_if_lt (tgt := 67) E dX5_helpersWork_50 (by decide) (fun c11 => ?_) (fun c11 => ?_)
            · rw [if_pos c11] at hm
              refine zr_sub (lv' := [(0, .ref (zw_ad P 37)), (1, .ref (zw_ad P b1)), (2, .int x2), (3, .int v2)]) [1, 2, 3, 0] rfl ?_
              exact t_X5_helpersWork_67 b1 hb1 E hr (m_X5_helpersWork_2 b1 n) ih σ x2 v2 hm
            · rw [if_neg c11] at hm
              refine zr_aload_n E dX5_helpersWork_53 1 rfl ?_
              refine fg_X5_9 E dX5_helpersWork_54 ?_
              refine zr_aload_n E dX5_helpersWork_57 2 rfl ?_
              refine fg_X5_41 hb1 E dX5_helpersWork_58 ?_
              refine zr_iload_n E dX5_helpersWork_61 3 rfl ?_
              obtain ⟨hv12, v12, ev12, hm⟩ := rd_some hm
              refine zr_iald E (ab_7 hb1) hv12 ev12 dX5_helpersWork_62 ?_
              obtain ⟨hv13, v13, ev13, hm⟩ := rd_some hm
              refine zr_iald E ac_38 hv13 ev13 dX5_helpersWork_63 ?_
              refine zr_if_ge (tgt := 91) E dX5_helpersWork_64 (by decide) (fun c14 => ?_) (fun c14 => ?_)
              · rw [if_pos c14] at hm
                obtain ⟨v15, ev15, hm⟩ := nm_some hm
                refine zr_iinc (j := 3) (lv' := [(2, .int v15), (3, .int v2), (0, .ref (zw_ad P 37)), (1, .ref (zw_ad P b1))]) E dX5_helpersWork_91 rfl ev15 (by decide) rfl ?_
                refine zr_goto (tgt := 2) E dX5_helpersWork_94 (by decide) ?_
                refine zr_sub (lv' := [(0, .ref (zw_ad P 37)), (1, .ref (zw_ad P b1)), (2, .int v15)]) [2, 3, 0] rfl ?_
                exact ih σ v15 hm
              · rw [if_neg c14] at hm
                refine zr_sub (lv' := [(0, .ref (zw_ad P 37)), (1, .ref (zw_ad P b1)), (2, .int x2), (3, .int v2)]) [1, 2, 3, 0] rfl ?_
                exact t_X5_helpersWork_67 b1 hb1 E hr (m_X5_helpersWork_2 b1 n) ih σ x2 v2 hm
          · rw [if_neg c9] at hm
            refine zr_goto (tgt := 91) E dX5_helpersWork_41 (by decide) ?_
            obtain ⟨v16, ev16, hm⟩ := nm_some hm
            refine zr_iinc (j := 3) (lv' := [(2, .int v16), (3, .int v2), (0, .ref (zw_ad P 37)), (1, .ref (zw_ad P b1))]) E dX5_helpersWork_91 rfl ev16 (by decide) rfl ?_
            refine zr_goto (tgt := 2) E dX5_helpersWork_94 (by decide) ?_
            refine zr_sub (lv' := [(0, .ref (zw_ad P 37)), (1, .ref (zw_ad P b1)), (2, .int v16)]) [2, 3, 0] rfl ?_
            exact ih σ v16 hm
set_option maxRecDepth 100000 in
set_option maxHeartbeats 4000000 in
theorem c_X5_helpersWork (l : Launch) (P : zw_P) (b1 : Nat) (hb1 : zw_bk b1 = true) (σ : zw_S) : zc_v l P yX5_helpersWork cX5_helpersWork 4 3 [.ref (zw_ad P 37), .ref (zw_ad P b1)] σ (m_X5_helpersWork b1 σ) := by
  refine zc_v.of (by decide) (Nat.le_of_ble_eq_true rfl) (fun B τ E hl hr hm => ?_)
  subst hl
  refine zr_sub (lv' := [(0, .ref (zw_ad P 37)), (1, .ref (zw_ad P b1))]) [0, 1] rfl ?_
  unfold m_X5_helpersWork at hm
  refine zr_iconst (v := 0) E dX5_helpersWork_0 (by decide) ?_
  refine zr_istore_n (lv' := [(2, .int 0), (0, .ref (zw_ad P 37)), (1, .ref (zw_ad P b1))]) E dX5_helpersWork_1 (by decide) rfl ?_
  refine zr_sub (lv' := [(0, .ref (zw_ad P 37)), (1, .ref (zw_ad P b1)), (2, .int 0)]) [1, 2, 0] rfl ?_
  exact t_X5_helpersWork_2 b1 hb1 E hr 200 σ 0 hm
-- X5_leave
set_option maxRecDepth 100000 in
set_option maxHeartbeats 4000000 in
theorem c_X5_leave (l : Launch) (P : zw_P) (b1 : Nat) (hb1 : zw_bk b1 = true) (σ : zw_S) (x2 : Int32) : zc_v l P yX5_leave cX5_leave 4 2 [.ref (zw_ad P 37), .ref (zw_ad P b1), .int x2] σ (m_X5_leave b1 σ x2) := by
  refine zc_v.of (by decide) (Nat.le_of_ble_eq_true rfl) (fun B τ E hl hr hm => ?_)
  subst hl
  refine zr_sub (lv' := [(0, .ref (zw_ad P 37)), (1, .ref (zw_ad P b1)), (2, .int x2)]) [0, 1, 2] rfl ?_
  unfold m_X5_leave at hm
  refine zr_aload_n E dX5_leave_0 1 rfl ?_
  refine fg_X5_41 hb1 E dX5_leave_1 ?_
  refine zr_iload_n E dX5_leave_4 2 rfl ?_
  obtain ⟨hv1, v1, ev1, hm⟩ := rd_some hm
  refine zr_iald E (ab_7 hb1) hv1 ev1 dX5_leave_5 ?_
  refine zr_istore_n (lv' := [(3, .int v1), (0, .ref (zw_ad P 37)), (1, .ref (zw_ad P b1)), (2, .int x2)]) E dX5_leave_6 (by decide) rfl ?_
  refine zr_aload_n E dX5_leave_7 2 rfl ?_
  refine fg_X5_41 hb1 E dX5_leave_8 ?_
  refine zr_iload_n E dX5_leave_11 3 rfl ?_
  refine zr_iconst (v := (-1)) E dX5_leave_12 (by decide) ?_
  obtain ⟨hs2, s2, es2, hm⟩ := wt_some hm
  refine zr_iast E (ab_7 hb1) hs2 es2 dX5_leave_13 ?_
  refine zr_aload_n E dX5_leave_14 2 rfl ?_
  refine fg_X5_86 hb1 E dX5_leave_15 ?_
  refine zr_iload_n E dX5_leave_18 0 rfl ?_
  refine zr_dup2 E dX5_leave_19 rfl rfl ?_
  obtain ⟨hv3, v3, ev3, hm⟩ := rd_some hm
  refine zr_iald E (ab_2 hb1) hv3 ev3 dX5_leave_20 ?_
  refine zr_iconst (v := 1) E dX5_leave_21 (by decide) ?_
  refine zr_iadd E dX5_leave_22 ?_
  obtain ⟨hs4, s4, es4, hm⟩ := wt_some hm
  refine zr_iast E (ab_2 hb1) hs4 es4 dX5_leave_23 ?_
  refine zr_aload_n E dX5_leave_24 2 rfl ?_
  refine zr_iload_n E dX5_leave_25 0 rfl ?_
  obtain ⟨r6, s5, os5, hm⟩ := cl_some hm
  refine zr_cVi (st := []) E mw_492 cm_X0_isOpen (c_X0_isOpen B.2.1 P b1 hb1 s4 v1) os5 (rc_bk P hb1) ⟨by decide, by decide⟩ rfl rfl (Nat.le_of_ble_eq_true rfl) dX5_leave_26 ?_
  refine zr_if_eq (tgt := 49) E dX5_leave_29 (by decide) (fun c7 => ?_) (fun c7 => ?_)
  · rw [if_pos c7] at hm
    exact zr_vret E hr hm dX5_leave_49
  · rw [if_neg c7] at hm
    refine zr_aload_n E dX5_leave_32 2 rfl ?_
    refine zr_iconst (v := 0) E dX5_leave_33 (by decide) ?_
    refine zr_iload_n E dX5_leave_34 0 rfl ?_
    refine zr_iconst (v := 5) E dX5_leave_35 (by decide) ?_
    refine zr_iconst (v := (-1)) E dX5_leave_36 (by decide) ?_
    obtain ⟨r9, s8, os8, hm⟩ := cl_some hm
    refine zr_cVi (st := []) E mw_493 cm_X0_addTask (c_X0_addTask B.2.1 P b1 hb1 s5 0 v1 5 (-1)) os8 (rc_bk P hb1) ⟨by decide, by decide⟩ rfl rfl (Nat.le_of_ble_eq_true rfl) dX5_leave_37 ?_
    refine zr_pop E dX5_leave_40 rfl ?_
    refine zr_aload_n E dX5_leave_41 2 rfl ?_
    refine zr_aload_n E dX5_leave_42 1 rfl ?_
    refine fg_X5_9 E dX5_leave_43 ?_
    obtain ⟨s10, os10, hm⟩ := cv_some hm
    refine zr_cVv (st := []) E mw_440 cm_X0_findHands (c_X0_findHands B.2.1 P b1 38 8 hb1 ac_38 s8) os10 (rc_bk P hb1) ⟨by decide, by decide⟩ rfl rfl (Nat.le_of_ble_eq_true rfl) dX5_leave_46 ?_
    exact zr_vret E hr hm dX5_leave_49
-- X5_personsAge
set_option maxRecDepth 100000 in
set_option maxHeartbeats 4000000 in
theorem t_X5_personsAge_31 {B : zw_B} {P : zw_P} {τ : zw_S} (b1 : Nat) (hb1 : zw_bk b1 = true) (E : zf B P cX5_personsAge RX5 3 3) (hr : B.2.2.2.2.2.2.2.2.1.sig.returnType = none) (R2 : zw_S → Int32 → Option zw_S) (hR2 : ∀ (σ : zw_S) (x2 : Int32), R2 σ x2 = some τ → zw_G B P (zq_v B P τ) 3 σ 2 [(0, .ref (zw_ad P 37)), (1, .ref (zw_ad P b1)), (2, .int x2)] []) (σ : zw_S) (x2 : Int32) (hm : m_X5_personsAge_31 b1 R2 σ x2 = some τ) : zw_G B P (zq_v B P τ) 3 σ 31 [(0, .ref (zw_ad P 37)), (1, .ref (zw_ad P b1)), (2, .int x2)] [] := by
  unfold m_X5_personsAge_31 at hm
  refine zr_aload_n E dX5_personsAge_31 1 rfl ?_
  refine fg_X5_44 hb1 E dX5_personsAge_32 ?_
  refine zr_iload_n E dX5_personsAge_35 2 rfl ?_
  obtain ⟨hv1, v1, ev1, hm⟩ := rd_some hm
  refine zr_iald E (ab_8 hb1) hv1 ev1 dX5_personsAge_36 ?_
  refine zr_bipush (v := 40) E dX5_personsAge_37 (by decide) ?_
  refine zr_icmp_lt (tgt := 57) E dX5_personsAge_39 (by decide) (fun c2 => ?_) (fun c2 => ?_)
  · rw [if_pos c2] at hm
    obtain ⟨v3, ev3, hm⟩ := nm_some hm
    refine zr_iinc (j := 2) (lv' := [(2, .int v3), (0, .ref (zw_ad P 37)), (1, .ref (zw_ad P b1))]) E dX5_personsAge_57 rfl ev3 (by decide) rfl ?_
    refine zr_goto (tgt := 2) E dX5_personsAge_60 (by decide) ?_
    refine zr_sub (lv' := [(0, .ref (zw_ad P 37)), (1, .ref (zw_ad P b1)), (2, .int v3)]) [1, 2, 0] rfl ?_
    exact hR2 σ v3 hm
  · rw [if_neg c2] at hm
    refine zr_aload_n E dX5_personsAge_42 1 rfl ?_
    refine fg_X5_41 hb1 E dX5_personsAge_43 ?_
    refine zr_iload_n E dX5_personsAge_46 2 rfl ?_
    obtain ⟨hv4, v4, ev4, hm⟩ := rd_some hm
    refine zr_iald E (ab_7 hb1) hv4 ev4 dX5_personsAge_47 ?_
    refine zr_if_lt (tgt := 57) E dX5_personsAge_48 (by decide) (fun c5 => ?_) (fun c5 => ?_)
    · rw [if_pos c5] at hm
      obtain ⟨v6, ev6, hm⟩ := nm_some hm
      refine zr_iinc (j := 2) (lv' := [(2, .int v6), (0, .ref (zw_ad P 37)), (1, .ref (zw_ad P b1))]) E dX5_personsAge_57 rfl ev6 (by decide) rfl ?_
      refine zr_goto (tgt := 2) E dX5_personsAge_60 (by decide) ?_
      refine zr_sub (lv' := [(0, .ref (zw_ad P 37)), (1, .ref (zw_ad P b1)), (2, .int v6)]) [1, 2, 0] rfl ?_
      exact hR2 σ v6 hm
    · rw [if_neg c5] at hm
      refine zr_aload_n E dX5_personsAge_51 0 rfl ?_
      refine zr_aload_n E dX5_personsAge_52 1 rfl ?_
      refine zr_iload_n E dX5_personsAge_53 2 rfl ?_
      obtain ⟨s7, os7, hm⟩ := cv_some hm
      refine zr_cVv (st := []) E mw_487 cm_X5_leave (c_X5_leave B.2.1 P b1 hb1 σ x2) os7 (rc_37 P) ⟨by decide, by decide⟩ rfl rfl (Nat.le_of_ble_eq_true rfl) dX5_personsAge_54 ?_
      obtain ⟨v8, ev8, hm⟩ := nm_some hm
      refine zr_iinc (j := 2) (lv' := [(2, .int v8), (0, .ref (zw_ad P 37)), (1, .ref (zw_ad P b1))]) E dX5_personsAge_57 rfl ev8 (by decide) rfl ?_
      refine zr_goto (tgt := 2) E dX5_personsAge_60 (by decide) ?_
      refine zr_sub (lv' := [(0, .ref (zw_ad P 37)), (1, .ref (zw_ad P b1)), (2, .int v8)]) [1, 2, 0] rfl ?_
      exact hR2 s7 v8 hm
set_option maxRecDepth 100000 in
set_option maxHeartbeats 4000000 in
theorem t_X5_personsAge_2 {B : zw_B} {P : zw_P} {τ : zw_S} (b1 : Nat) (hb1 : zw_bk b1 = true) (E : zf B P cX5_personsAge RX5 3 3) (hr : B.2.2.2.2.2.2.2.2.1.sig.returnType = none) : ∀ (n : Nat) (σ : zw_S) (x2 : Int32), m_X5_personsAge_2 b1 n σ x2 = some τ → zw_G B P (zq_v B P τ) 3 σ 2 [(0, .ref (zw_ad P 37)), (1, .ref (zw_ad P b1)), (2, .int x2)] [] := by
  intro n
  induction n with
  | zero => intro σ x2 hm; cases hm
  | succ n ih =>
    intro σ x2 hm
    unfold m_X5_personsAge_2 at hm
    refine zr_iload_n E dX5_personsAge_2 2 rfl ?_
    refine zr_aload_n E dX5_personsAge_3 1 rfl ?_
    refine fg_X5_38 hb1 E dX5_personsAge_4 ?_
    refine zr_icmp_ge (tgt := 63) E dX5_personsAge_7 (by decide) (fun c1 => ?_) (fun c1 => ?_)
    · rw [if_pos c1] at hm
      exact zr_vret E hr hm dX5_personsAge_63
    · rw [if_neg c1] at hm
      refine zr_aload_n E dX5_personsAge_10 1 rfl ?_
      refine fg_X5_44 hb1 E dX5_personsAge_11 ?_
      refine zr_iload_n E dX5_personsAge_14 2 rfl ?_
      obtain ⟨hv2, v2, ev2, hm⟩ := rd_some hm
      refine zr_iald E (ab_8 hb1) hv2 ev2 dX5_personsAge_15 ?_
      refine zr_bipush (v := 40) E dX5_personsAge_16 (by decide) ?_
      refine zr_icmp_ge (tgt := 31) E dX5_personsAge_18 (by decide) (fun c3 => ?_) (fun c3 => ?_)
      · rw [if_pos c3] at hm
        refine zr_sub (lv' := [(0, .ref (zw_ad P 37)), (1, .ref (zw_ad P b1)), (2, .int x2)]) [0, 1, 2] rfl ?_
        exact t_X5_personsAge_31 b1 hb1 E hr (m_X5_personsAge_2 b1 n) ih σ x2 hm
      · rw [if_neg c3] at hm
        refine zr_aload_n E dX5_personsAge_21 1 rfl ?_
        refine fg_X5_44 hb1 E dX5_personsAge_22 ?_
        refine zr_iload_n E dX5_personsAge_25 2 rfl ?_
        refine zr_dup2 E dX5_personsAge_26 rfl rfl ?_
        obtain ⟨hv4, v4, ev4, hm⟩ := rd_some hm
        refine zr_iald E (ab_8 hb1) hv4 ev4 dX5_personsAge_27 ?_
        refine zr_iconst (v := 1) E dX5_personsAge_28 (by decide) ?_
        refine zr_iadd E dX5_personsAge_29 ?_
        obtain ⟨hs5, s5, es5, hm⟩ := wt_some hm
        refine zr_iast E (ab_8 hb1) hs5 es5 dX5_personsAge_30 ?_
        refine zr_sub (lv' := [(0, .ref (zw_ad P 37)), (1, .ref (zw_ad P b1)), (2, .int x2)]) [0, 1, 2] rfl ?_
        exact t_X5_personsAge_31 b1 hb1 E hr (m_X5_personsAge_2 b1 n) ih s5 x2 hm
set_option maxRecDepth 100000 in
set_option maxHeartbeats 4000000 in
theorem c_X5_personsAge (l : Launch) (P : zw_P) (b1 : Nat) (hb1 : zw_bk b1 = true) (σ : zw_S) : zc_v l P yX5_personsAge cX5_personsAge 3 3 [.ref (zw_ad P 37), .ref (zw_ad P b1)] σ (m_X5_personsAge b1 σ) := by
  refine zc_v.of (by decide) (Nat.le_of_ble_eq_true rfl) (fun B τ E hl hr hm => ?_)
  subst hl
  refine zr_sub (lv' := [(0, .ref (zw_ad P 37)), (1, .ref (zw_ad P b1))]) [0, 1] rfl ?_
  unfold m_X5_personsAge at hm
  refine zr_iconst (v := 0) E dX5_personsAge_0 (by decide) ?_
  refine zr_istore_n (lv' := [(2, .int 0), (0, .ref (zw_ad P 37)), (1, .ref (zw_ad P b1))]) E dX5_personsAge_1 (by decide) rfl ?_
  refine zr_sub (lv' := [(0, .ref (zw_ad P 37)), (1, .ref (zw_ad P b1)), (2, .int 0)]) [1, 2, 0] rfl ?_
  exact t_X5_personsAge_2 b1 hb1 E hr 200 σ 0 hm
-- X5_tasksGrow
set_option maxRecDepth 100000 in
set_option maxHeartbeats 4000000 in
theorem t_X5_tasksGrow_2 {B : zw_B} {P : zw_P} {τ : zw_S} (b1 : Nat) (hb1 : zw_bk b1 = true) (E : zf B P cX5_tasksGrow RX5 3 2) (hr : B.2.2.2.2.2.2.2.2.1.sig.returnType = none) : ∀ (n : Nat) (σ : zw_S) (x2 : Int32), m_X5_tasksGrow_2 b1 n σ x2 = some τ → zw_G B P (zq_v B P τ) 3 σ 2 [(1, .ref (zw_ad P b1)), (2, .int x2)] [] := by
  intro n
  induction n with
  | zero => intro σ x2 hm; cases hm
  | succ n ih =>
    intro σ x2 hm
    unfold m_X5_tasksGrow_2 at hm
    refine zr_iload_n E dX5_tasksGrow_2 1 rfl ?_
    refine zr_aload_n E dX5_tasksGrow_3 0 rfl ?_
    refine fg_X5_69 hb1 E dX5_tasksGrow_4 ?_
    refine zr_icmp_ge (tgt := 58) E dX5_tasksGrow_7 (by decide) (fun c1 => ?_) (fun c1 => ?_)
    · rw [if_pos c1] at hm
      exact zr_vret E hr hm dX5_tasksGrow_58
    · rw [if_neg c1] at hm
      refine zr_aload_n E dX5_tasksGrow_10 0 rfl ?_
      refine fg_X5_57 hb1 E dX5_tasksGrow_11 ?_
      refine zr_iload_n E dX5_tasksGrow_14 1 rfl ?_
      obtain ⟨hv2, v2, ev2, hm⟩ := rd_some hm
      refine zr_iald E (ab_5 hb1) hv2 ev2 dX5_tasksGrow_15 ?_
      refine zr_if_le (tgt := 52) E dX5_tasksGrow_16 (by decide) (fun c3 => ?_) (fun c3 => ?_)
      · rw [if_pos c3] at hm
        obtain ⟨v4, ev4, hm⟩ := nm_some hm
        refine zr_iinc (j := 1) (lv' := [(2, .int v4), (1, .ref (zw_ad P b1))]) E dX5_tasksGrow_52 rfl ev4 (by decide) rfl ?_
        refine zr_goto (tgt := 2) E dX5_tasksGrow_55 (by decide) ?_
        refine zr_sub (lv' := [(1, .ref (zw_ad P b1)), (2, .int v4)]) [1, 0] rfl ?_
        exact ih σ v4 hm
      · rw [if_neg c3] at hm
        refine zr_aload_n E dX5_tasksGrow_19 0 rfl ?_
        refine fg_X5_72 hb1 E dX5_tasksGrow_20 ?_
        refine zr_iload_n E dX5_tasksGrow_23 1 rfl ?_
        obtain ⟨hv5, v5, ev5, hm⟩ := rd_some hm
        refine zr_iald E (ab_3 hb1) hv5 ev5 dX5_tasksGrow_24 ?_
        refine zr_if_eq (tgt := 52) E dX5_tasksGrow_25 (by decide) (fun c6 => ?_) (fun c6 => ?_)
        · rw [if_pos c6] at hm
          obtain ⟨v7, ev7, hm⟩ := nm_some hm
          refine zr_iinc (j := 1) (lv' := [(2, .int v7), (1, .ref (zw_ad P b1))]) E dX5_tasksGrow_52 rfl ev7 (by decide) rfl ?_
          refine zr_goto (tgt := 2) E dX5_tasksGrow_55 (by decide) ?_
          refine zr_sub (lv' := [(1, .ref (zw_ad P b1)), (2, .int v7)]) [1, 0] rfl ?_
          exact ih σ v7 hm
        · rw [if_neg c6] at hm
          refine zr_aload_n E dX5_tasksGrow_28 0 rfl ?_
          refine fg_X5_57 hb1 E dX5_tasksGrow_29 ?_
          refine zr_iload_n E dX5_tasksGrow_32 1 rfl ?_
          refine zr_sipush (v := 999) E dX5_tasksGrow_33 (by decide) ?_
          refine zr_aload_n E dX5_tasksGrow_36 0 rfl ?_
          refine fg_X5_57 hb1 E dX5_tasksGrow_37 ?_
          refine zr_iload_n E dX5_tasksGrow_40 1 rfl ?_
          obtain ⟨hv8, v8, ev8, hm⟩ := rd_some hm
          refine zr_iald E (ab_5 hb1) hv8 ev8 dX5_tasksGrow_41 ?_
          refine zr_aload_n E dX5_tasksGrow_42 0 rfl ?_
          refine zr_iload_n E dX5_tasksGrow_43 1 rfl ?_
          obtain ⟨r10, s9, os9, hm⟩ := cl_some hm
          refine zr_cVi (st := [.int v8, .int 999, .int x2, .ref (zw_ad P ((b1 + 5)))]) E mw_482 cm_X0_growthOf (c_X0_growthOf B.2.1 P b1 hb1 σ x2) os9 (rc_bk P hb1) ⟨by decide, by decide⟩ rfl rfl (Nat.le_of_ble_eq_true rfl) dX5_tasksGrow_44 ?_
          refine zr_iadd E dX5_tasksGrow_47 ?_
          refine zr_min (h := 1) E mw_479 mM_min_1 mM_min_2 mM_min_3 (Nat.le_of_ble_eq_true rfl) dX5_tasksGrow_48 ?_
          obtain ⟨hs11, s11, es11, hm⟩ := wt_some hm
          refine zr_iast E (ab_5 hb1) hs11 es11 dX5_tasksGrow_51 ?_
          obtain ⟨v12, ev12, hm⟩ := nm_some hm
          refine zr_iinc (j := 1) (lv' := [(2, .int v12), (1, .ref (zw_ad P b1))]) E dX5_tasksGrow_52 rfl ev12 (by decide) rfl ?_
          refine zr_goto (tgt := 2) E dX5_tasksGrow_55 (by decide) ?_
          refine zr_sub (lv' := [(1, .ref (zw_ad P b1)), (2, .int v12)]) [1, 0] rfl ?_
          exact ih s11 v12 hm
set_option maxRecDepth 100000 in
set_option maxHeartbeats 4000000 in
theorem c_X5_tasksGrow (l : Launch) (P : zw_P) (b1 : Nat) (hb1 : zw_bk b1 = true) (σ : zw_S) : zc_v l P yX5_tasksGrow cX5_tasksGrow 3 2 [.ref (zw_ad P 37), .ref (zw_ad P b1)] σ (m_X5_tasksGrow b1 σ) := by
  refine zc_v.of (by decide) (Nat.le_of_ble_eq_true rfl) (fun B τ E hl hr hm => ?_)
  subst hl
  refine zr_sub (lv' := [(0, .ref (zw_ad P 37)), (1, .ref (zw_ad P b1))]) [0, 1] rfl ?_
  unfold m_X5_tasksGrow at hm
  refine zr_iconst (v := 0) E dX5_tasksGrow_0 (by decide) ?_
  refine zr_istore_n (lv' := [(2, .int 0), (0, .ref (zw_ad P 37)), (1, .ref (zw_ad P b1))]) E dX5_tasksGrow_1 (by decide) rfl ?_
  refine zr_sub (lv' := [(1, .ref (zw_ad P b1)), (2, .int 0)]) [2, 0] rfl ?_
  exact t_X5_tasksGrow_2 b1 hb1 E hr 200 σ 0 hm
-- X5_go
set_option maxRecDepth 100000 in
set_option maxHeartbeats 4000000 in
theorem t_X5_go_10 {B : zw_B} {P : zw_P} {τ : zw_S} (b1 : Nat) (hb1 : zw_bk b1 = true) (E : zf B P cX5_go RX5 4 4) (hr : B.2.2.2.2.2.2.2.2.1.sig.returnType = none) : ∀ (n : Nat) (σ : zw_S) (x2 : Int32) (x3 : Int32), m_X5_go_10 b1 n σ x2 x3 = some τ → zw_G B P (zq_v B P τ) 4 σ 10 [(0, .ref (zw_ad P 37)), (1, .ref (zw_ad P b1)), (2, .int x2), (3, .int x3)] [] := by
  intro n
  induction n with
  | zero => intro σ x2 x3 hm; cases hm
  | succ n ih =>
    intro σ x2 x3 hm
    unfold m_X5_go_10 at hm
    refine zr_iload_n E dX5_go_10 3 rfl ?_
    refine zr_iload_n E dX5_go_11 2 rfl ?_
    refine zr_icmp_ge (tgt := 51) E dX5_go_12 (by decide) (fun c1 => ?_) (fun c1 => ?_)
    · rw [if_pos c1] at hm
      exact zr_vret E hr hm dX5_go_51
    · rw [if_neg c1] at hm
      refine zr_aload_n E dX5_go_15 0 rfl ?_
      refine zr_aload_n E dX5_go_16 1 rfl ?_
      obtain ⟨s2, os2, hm⟩ := cv_some hm
      refine zr_cVv (st := []) E mw_444 cm_X5_bearersWork (c_X5_bearersWork B.2.1 P b1 hb1 σ) os2 (rc_37 P) ⟨by decide, by decide⟩ rfl rfl (Nat.le_of_ble_eq_true rfl) dX5_go_17 ?_
      refine zr_aload_n E dX5_go_20 0 rfl ?_
      refine zr_aload_n E dX5_go_21 1 rfl ?_
      obtain ⟨s3, os3, hm⟩ := cv_some hm
      refine zr_cVv (st := []) E mw_468 cm_X5_helpersWork (c_X5_helpersWork B.2.1 P b1 hb1 s2) os3 (rc_37 P) ⟨by decide, by decide⟩ rfl rfl (Nat.le_of_ble_eq_true rfl) dX5_go_22 ?_
      refine zr_aload_n E dX5_go_25 0 rfl ?_
      refine zr_aload_n E dX5_go_26 1 rfl ?_
      obtain ⟨s4, os4, hm⟩ := cv_some hm
      refine zr_cVv (st := []) E mw_473 cm_X5_tasksGrow (c_X5_tasksGrow B.2.1 P b1 hb1 s3) os4 (rc_37 P) ⟨by decide, by decide⟩ rfl rfl (Nat.le_of_ble_eq_true rfl) dX5_go_27 ?_
      refine zr_aload_n E dX5_go_30 0 rfl ?_
      refine zr_aload_n E dX5_go_31 1 rfl ?_
      obtain ⟨s5, os5, hm⟩ := cv_some hm
      refine zr_cVv (st := []) E mw_483 cm_X5_personsAge (c_X5_personsAge B.2.1 P b1 hb1 s4) os5 (rc_37 P) ⟨by decide, by decide⟩ rfl rfl (Nat.le_of_ble_eq_true rfl) dX5_go_32 ?_
      refine zr_aload_n E dX5_go_35 1 rfl ?_
      refine zr_dup E dX5_go_36 rfl ?_
      refine fg_X5_34 hb1 E dX5_go_37 ?_
      refine zr_iconst (v := 1) E dX5_go_40 (by decide) ?_
      refine zr_iadd E dX5_go_41 ?_
      obtain ⟨s6, es6, hm⟩ := nm_some hm
      refine fp_X5_34 hb1 E es6 dX5_go_42 ?_
      obtain ⟨v7, ev7, hm⟩ := nm_some hm
      refine zr_iinc (j := 3) (lv' := [(3, .int v7), (0, .ref (zw_ad P 37)), (1, .ref (zw_ad P b1)), (2, .int x2)]) E dX5_go_45 rfl ev7 (by decide) rfl ?_
      refine zr_goto (tgt := 10) E dX5_go_48 (by decide) ?_
      refine zr_sub (lv' := [(0, .ref (zw_ad P 37)), (1, .ref (zw_ad P b1)), (2, .int x2), (3, .int v7)]) [1, 2, 3, 0] rfl ?_
      exact ih s6 x2 v7 hm
set_option maxRecDepth 100000 in
set_option maxHeartbeats 4000000 in
theorem c_X5_go (l : Launch) (P : zw_P) (b1 : Nat) (hb1 : zw_bk b1 = true) (σ : zw_S) (x2 : Int32) : zc_v l P yX5_go cX5_go 4 4 [.ref (zw_ad P 37), .ref (zw_ad P b1), .int x2] σ (m_X5_go b1 σ x2) := by
  refine zc_v.of (by decide) (Nat.le_of_ble_eq_true rfl) (fun B τ E hl hr hm => ?_)
  subst hl
  refine zr_sub (lv' := [(0, .ref (zw_ad P 37)), (1, .ref (zw_ad P b1)), (2, .int x2)]) [0, 1, 2] rfl ?_
  unfold m_X5_go at hm
  refine zr_aload_n E dX5_go_0 1 rfl ?_
  refine zr_aload_n E dX5_go_1 0 rfl ?_
  refine fg_X5_9 E dX5_go_2 ?_
  obtain ⟨s1, os1, hm⟩ := cv_some hm
  refine zr_cVv (st := []) E mw_440 cm_X0_findHands (c_X0_findHands B.2.1 P b1 38 8 hb1 ac_38 σ) os1 (rc_bk P hb1) ⟨by decide, by decide⟩ rfl rfl (Nat.le_of_ble_eq_true rfl) dX5_go_5 ?_
  refine zr_iconst (v := 0) E dX5_go_8 (by decide) ?_
  refine zr_istore_n (lv' := [(3, .int 0), (0, .ref (zw_ad P 37)), (1, .ref (zw_ad P b1)), (2, .int x2)]) E dX5_go_9 (by decide) rfl ?_
  refine zr_sub (lv' := [(0, .ref (zw_ad P 37)), (1, .ref (zw_ad P b1)), (2, .int x2), (3, .int 0)]) [1, 2, 3, 0] rfl ?_
  exact t_X5_go_10 b1 hb1 E hr 200 s1 x2 0 hm
