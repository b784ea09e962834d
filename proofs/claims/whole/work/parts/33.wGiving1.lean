-- X1_gather
set_option maxRecDepth 100000 in
set_option maxHeartbeats 4000000 in
theorem t_X1_gather_7 {B : zw_B} {P : zw_P} {r : Int32} {τ : zw_S} (b1 : Nat) (hb1 : zw_bk b1 = true) (E : zf B P cX1_gather RX1 3 0) (hr : B.2.2.2.2.2.2.2.2.1.sig.returnType = some .boolean) : ∀ (n : Nat) (σ : zw_S) (x2 : Int32), m_X1_gather_7 b1 n σ x2 = some (r, τ) → zw_G B P (zq_i B P r τ) 3 σ 7 [(0, .ref (zw_ad P 39)), (1, .ref (zw_ad P b1)), (2, .int x2)] [] := by
  intro n
  induction n with
  | zero => intro σ x2 hm; cases hm
  | succ n ih =>
    intro σ x2 hm
    unfold m_X1_gather_7 at hm
    refine zr_iload_n E dX1_gather_7 2 rfl ?_
    refine zr_aload_n E dX1_gather_8 1 rfl ?_
    refine fg_X1_39 hb1 E dX1_gather_9 ?_
    refine zr_icmp_ge (tgt := 71) E dX1_gather_12 (by decide) (fun c1 => ?_) (fun c1 => ?_)
    · rw [if_pos c1] at hm
      refine zr_iconst (v := 1) E dX1_gather_71 (by decide) ?_
      exact zr_iret E hr (by decide) hm dX1_gather_72
    · rw [if_neg c1] at hm
      refine zr_aload_n E dX1_gather_15 1 rfl ?_
      refine fg_X1_44 hb1 E dX1_gather_16 ?_
      refine zr_iload_n E dX1_gather_19 2 rfl ?_
      obtain ⟨hv2, v2, ev2, hm⟩ := rd_some hm
      refine zr_iald E (ab_7 hb1) hv2 ev2 dX1_gather_20 ?_
      refine zr_if_ge (tgt := 65) E dX1_gather_21 (by decide) (fun c3 => ?_) (fun c3 => ?_)
      · rw [if_pos c3] at hm
        obtain ⟨v4, ev4, hm⟩ := nm_some hm
        refine zr_iinc (j := 2) (lv' := [(2, .int v4), (0, .ref (zw_ad P 39)), (1, .ref (zw_ad P b1))]) E dX1_gather_65 rfl ev4 (by decide) rfl ?_
        refine zr_goto (tgt := 7) E dX1_gather_68 (by decide) ?_
        refine zr_sub (lv' := [(0, .ref (zw_ad P 39)), (1, .ref (zw_ad P b1)), (2, .int v4)]) [1, 2, 0] rfl ?_
        exact ih σ v4 hm
      · rw [if_neg c3] at hm
        refine zr_aload_n E dX1_gather_24 1 rfl ?_
        refine fg_X1_47 hb1 E dX1_gather_25 ?_
        refine zr_iload_n E dX1_gather_28 2 rfl ?_
        obtain ⟨hv5, v5, ev5, hm⟩ := rd_some hm
        refine zr_iald E (ab_8 hb1) hv5 ev5 dX1_gather_29 ?_
        refine zr_bipush (v := 40) E dX1_gather_30 (by decide) ?_
        refine zr_icmp_lt (tgt := 38) E dX1_gather_32 (by decide) (fun c6 => ?_) (fun c6 => ?_)
        · rw [if_pos c6] at hm
          refine zr_aload_n E dX1_gather_38 0 rfl ?_
          refine fg_X1_35 E dX1_gather_39 ?_
          refine zr_iconst (v := 4) E dX1_gather_42 (by decide) ?_
          refine zr_icmp_lt (tgt := 48) E dX1_gather_43 (by decide) (fun c7 => ?_) (fun c7 => ?_)
          · rw [if_pos c7] at hm
            refine zr_aload_n E dX1_gather_48 0 rfl ?_
            refine fg_X1_11 E dX1_gather_49 ?_
            refine zr_aload_n E dX1_gather_52 0 rfl ?_
            refine zr_dup E dX1_gather_53 rfl ?_
            refine fg_X1_35 E dX1_gather_54 ?_
            obtain ⟨v8, ev8, hm⟩ := nm_some hm
            refine zr_top ev8 ?_
            refine zr_dup_x1 E dX1_gather_57 rfl rfl ?_
            refine zr_iconst (v := 1) E dX1_gather_58 (by decide) ?_
            refine zr_iadd E dX1_gather_59 ?_
            obtain ⟨s9, es9, hm⟩ := nm_some hm
            refine fp_X1_35 E es9 dX1_gather_60 ?_
            refine zr_iload_n E dX1_gather_63 2 rfl ?_
            obtain ⟨hs10, s10, es10, hm⟩ := wt_some hm
            refine zr_iast E ac_40 hs10 es10 dX1_gather_64 ?_
            obtain ⟨v11, ev11, hm⟩ := nm_some hm
            refine zr_iinc (j := 2) (lv' := [(2, .int v11), (0, .ref (zw_ad P 39)), (1, .ref (zw_ad P b1))]) E dX1_gather_65 rfl ev11 (by decide) rfl ?_
            refine zr_goto (tgt := 7) E dX1_gather_68 (by decide) ?_
            refine zr_sub (lv' := [(0, .ref (zw_ad P 39)), (1, .ref (zw_ad P b1)), (2, .int v11)]) [1, 2, 0] rfl ?_
            exact ih s10 v11 hm
          · rw [if_neg c7] at hm
            refine zr_iconst (v := 0) E dX1_gather_46 (by decide) ?_
            exact zr_iret E hr (by decide) hm dX1_gather_47
        · rw [if_neg c6] at hm
          refine zr_goto (tgt := 65) E dX1_gather_35 (by decide) ?_
          obtain ⟨v12, ev12, hm⟩ := nm_some hm
          refine zr_iinc (j := 2) (lv' := [(2, .int v12), (0, .ref (zw_ad P 39)), (1, .ref (zw_ad P b1))]) E dX1_gather_65 rfl ev12 (by decide) rfl ?_
          refine zr_goto (tgt := 7) E dX1_gather_68 (by decide) ?_
          refine zr_sub (lv' := [(0, .ref (zw_ad P 39)), (1, .ref (zw_ad P b1)), (2, .int v12)]) [1, 2, 0] rfl ?_
          exact ih σ v12 hm
set_option maxRecDepth 100000 in
set_option maxHeartbeats 4000000 in
theorem c_X1_gather (l : Launch) (P : zw_P) (b1 : Nat) (hb1 : zw_bk b1 = true) (σ : zw_S) : zc_i l P yX1_gather cX1_gather 3 .boolean 0 [.ref (zw_ad P 39), .ref (zw_ad P b1)] σ (m_X1_gather b1 σ) := by
  refine zc_i.of (by decide) (Nat.le_of_ble_eq_true rfl) (fun B r τ E hl hr hm => ?_)
  subst hl
  refine zr_sub (lv' := [(0, .ref (zw_ad P 39)), (1, .ref (zw_ad P b1))]) [0, 1] rfl ?_
  unfold m_X1_gather at hm
  refine zr_aload_n E dX1_gather_0 0 rfl ?_
  refine zr_iconst (v := 0) E dX1_gather_1 (by decide) ?_
  obtain ⟨s1, es1, hm⟩ := nm_some hm
  refine fp_X1_35 E es1 dX1_gather_2 ?_
  refine zr_iconst (v := 0) E dX1_gather_5 (by decide) ?_
  refine zr_istore_n (lv' := [(2, .int 0), (0, .ref (zw_ad P 39)), (1, .ref (zw_ad P b1))]) E dX1_gather_6 (by decide) rfl ?_
  refine zr_sub (lv' := [(0, .ref (zw_ad P 39)), (1, .ref (zw_ad P b1)), (2, .int 0)]) [1, 2, 0] rfl ?_
  exact t_X1_gather_7 b1 hb1 E hr 200 s1 0 hm
-- X1_gainOf
set_option maxRecDepth 100000 in
set_option maxHeartbeats 4000000 in
theorem c_X1_gainOf (l : Launch) (P : zw_P) (b0 : Nat) (hb0 : zw_bk b0 = true) (σ : zw_S) (x1 : Int32) (x2 : Int32) (x3 : Int32) : zc_i l P yX1_gainOf cX1_gainOf 4 .int 3 [.ref (zw_ad P b0), .int x1, .int x2, .int x3] σ (m_X1_gainOf b0 σ x1 x2 x3) := by
  refine zc_i.of (by decide) (Nat.le_of_ble_eq_true rfl) (fun B r τ E hl hr hm => ?_)
  subst hl
  refine zr_sub (lv' := [(0, .ref (zw_ad P b0)), (1, .int x1), (2, .int x2), (3, .int x3)]) [0, 1, 2, 3] rfl ?_
  unfold m_X1_gainOf at hm
  refine zr_aload_n E dX1_gainOf_0 0 rfl ?_
  refine zr_iload_n E dX1_gainOf_1 2 rfl ?_
  obtain ⟨r2, s1, os1, hm⟩ := cl_some hm
  refine zr_cVi (st := []) E mw_694 cm_X0_hoursOf (c_X0_hoursOf B.2.1 P b0 hb0 σ x2) os1 (rc_bk P hb0) ⟨by decide, by decide⟩ rfl rfl (Nat.le_of_ble_eq_true rfl) dX1_gainOf_2 ?_
  refine zr_aload_n E dX1_gainOf_5 0 rfl ?_
  refine zr_iload_n E dX1_gainOf_6 1 rfl ?_
  refine zr_iload_n E dX1_gainOf_7 2 rfl ?_
  refine zr_iload_n E dX1_gainOf_8 3 rfl ?_
  obtain ⟨r4, s3, os3, hm⟩ := cl_some hm
  refine zr_cVi (st := [.int r2]) E mw_695 cm_X0_mostWork (c_X0_mostWork B.2.1 P b0 hb0 s1 x1 x2 x3) os3 (rc_bk P hb0) ⟨by decide, by decide⟩ rfl rfl (Nat.le_of_ble_eq_true rfl) dX1_gainOf_9 ?_
  refine zr_icmp_le (tgt := 19) E dX1_gainOf_12 (by decide) (fun c5 => ?_) (fun c5 => ?_)
  · rw [if_pos c5] at hm
    refine zr_aload_n E dX1_gainOf_19 0 rfl ?_
    refine fg_X1_89 hb0 E dX1_gainOf_20 ?_
    refine zr_iload_n E dX1_gainOf_23 2 rfl ?_
    obtain ⟨hv6, v6, ev6, hm⟩ := rd_some hm
    refine zr_iald E (ab_1 hb0) hv6 ev6 dX1_gainOf_24 ?_
    exact zr_iret E hr rfl hm dX1_gainOf_25
  · rw [if_neg c5] at hm
    refine zr_iconst (v := 0) E dX1_gainOf_15 (by decide) ?_
    refine zr_goto (tgt := 25) E dX1_gainOf_16 (by decide) ?_
    exact zr_iret E hr rfl hm dX1_gainOf_25
-- X1_findGains
set_option maxRecDepth 100000 in
set_option maxHeartbeats 4000000 in
theorem t_X1_findGains_101 {B : zw_B} {P : zw_P} {τ : zw_S} (b1 : Nat) (hb1 : zw_bk b1 = true) (E : zf B P cX1_findGains RX1 8 4) (hr : B.2.2.2.2.2.2.2.2.1.sig.returnType = none) (R23 : zw_S → Int32 → Int32 → Int32 → Option zw_S) (hR23 : ∀ (σ : zw_S) (x2 : Int32) (x3 : Int32) (x4 : Int32), R23 σ x2 x3 x4 = some τ → zw_G B P (zq_v B P τ) 8 σ 23 [(0, .ref (zw_ad P 39)), (1, .ref (zw_ad P b1)), (2, .int x2), (3, .int x3), (4, .int x4)] []) (σ : zw_S) (x2 : Int32) (x3 : Int32) (x4 : Int32) (x5 : Int32) (hm : m_X1_findGains_101 b1 R23 σ x2 x3 x4 x5 = some τ) : zw_G B P (zq_v B P τ) 8 σ 101 [(0, .ref (zw_ad P 39)), (1, .ref (zw_ad P b1)), (2, .int x2), (3, .int x3), (4, .int x4), (5, .int x5)] [] := by
  unfold m_X1_findGains_101 at hm
  refine zr_aload_n E dX1_findGains_101 0 rfl ?_
  refine fg_X1_24 E dX1_findGains_102 ?_
  refine zr_iload E dX1_findGains_105 4 rfl ?_
  refine zr_aload_n E dX1_findGains_107 0 rfl ?_
  refine fg_X1_24 E dX1_findGains_108 ?_
  refine zr_iload E dX1_findGains_111 4 rfl ?_
  refine zr_iconst (v := 1) E dX1_findGains_113 (by decide) ?_
  refine zr_iadd E dX1_findGains_114 ?_
  obtain ⟨hv1, v1, ev1, hm⟩ := rd_some hm
  refine zr_iald E ac_44 hv1 ev1 dX1_findGains_115 ?_
  refine zr_iload E dX1_findGains_116 5 rfl ?_
  refine zr_iadd E dX1_findGains_118 ?_
  obtain ⟨hs2, s2, es2, hm⟩ := wt_some hm
  refine zr_iast E ac_44 hs2 es2 dX1_findGains_119 ?_
  obtain ⟨v3, ev3, hm⟩ := nm_some hm
  refine zr_iinc (j := 4) (lv' := [(4, .int v3), (0, .ref (zw_ad P 39)), (1, .ref (zw_ad P b1)), (2, .int x2), (3, .int x3), (5, .int x5)]) E dX1_findGains_120 rfl ev3 (by decide) rfl ?_
  refine zr_goto (tgt := 23) E dX1_findGains_123 (by decide) ?_
  refine zr_sub (lv' := [(0, .ref (zw_ad P 39)), (1, .ref (zw_ad P b1)), (2, .int x2), (3, .int x3), (4, .int v3)]) [1, 2, 3, 4, 0] rfl ?_
  exact hR23 s2 x2 x3 v3 hm
set_option maxRecDepth 100000 in
set_option maxHeartbeats 4000000 in
theorem t_X1_findGains_69 {B : zw_B} {P : zw_P} {τ : zw_S} (b1 : Nat) (hb1 : zw_bk b1 = true) (E : zf B P cX1_findGains RX1 8 4) (hr : B.2.2.2.2.2.2.2.2.1.sig.returnType = none) (R23 : zw_S → Int32 → Int32 → Int32 → Option zw_S) (hR23 : ∀ (σ : zw_S) (x2 : Int32) (x3 : Int32) (x4 : Int32), R23 σ x2 x3 x4 = some τ → zw_G B P (zq_v B P τ) 8 σ 23 [(0, .ref (zw_ad P 39)), (1, .ref (zw_ad P b1)), (2, .int x2), (3, .int x3), (4, .int x4)] []) (R34 : zw_S → Int32 → Int32 → Int32 → Int32 → Int32 → Option zw_S) (hR34 : ∀ (σ : zw_S) (x2 : Int32) (x3 : Int32) (x4 : Int32) (x5 : Int32) (x6 : Int32), R34 σ x2 x3 x4 x5 x6 = some τ → zw_G B P (zq_v B P τ) 8 σ 34 [(0, .ref (zw_ad P 39)), (1, .ref (zw_ad P b1)), (2, .int x2), (3, .int x3), (4, .int x4), (5, .int x5), (6, .int x6)] []) (σ : zw_S) (x2 : Int32) (x3 : Int32) (x4 : Int32) (x5 : Int32) (x6 : Int32) (y0 : Int32) (hm : m_X1_findGains_69 b1 R23 R34 σ x2 x3 x4 x5 x6 y0 = some τ) : zw_G B P (zq_v B P τ) 8 σ 69 [(0, .ref (zw_ad P 39)), (1, .ref (zw_ad P b1)), (2, .int x2), (3, .int x3), (4, .int x4), (5, .int x5), (6, .int x6)] [.int y0] := by
  unfold m_X1_findGains_69 at hm
  refine zr_istore (lv' := [(7, .int y0), (0, .ref (zw_ad P 39)), (1, .ref (zw_ad P b1)), (2, .int x2), (3, .int x3), (4, .int x4), (5, .int x5), (6, .int x6)]) E dX1_findGains_69 (by decide) rfl ?_
  refine zr_aload_n E dX1_findGains_71 1 rfl ?_
  refine fg_X1_21 E dX1_findGains_72 ?_
  refine zr_iload E dX1_findGains_75 5 rfl ?_
  refine zr_bipush (v := 8) E dX1_findGains_77 (by decide) ?_
  refine zr_imul E dX1_findGains_79 ?_
  refine zr_iload E dX1_findGains_80 7 rfl ?_
  refine zr_iadd E dX1_findGains_82 ?_
  refine zr_iload E dX1_findGains_83 0 rfl ?_
  obtain ⟨hs1, s1, es1, hm⟩ := wt_some hm
  refine zr_iast E ac_43 hs1 es1 dX1_findGains_85 ?_
  refine zr_iload E dX1_findGains_86 6 rfl ?_
  refine zr_iload E dX1_findGains_88 0 rfl ?_
  refine zr_max (h := 3) E mw_688 mM_max_1 mM_max_2 mM_max_3 (Nat.le_of_ble_eq_true rfl) dX1_findGains_90 ?_
  obtain ⟨v2, ev2, hm⟩ := nm_some hm
  refine zr_top ev2 ?_
  refine zr_istore (lv' := [(5, .int v2), (7, .int y0), (0, .ref (zw_ad P 39)), (1, .ref (zw_ad P b1)), (2, .int x2), (3, .int x3), (4, .int x4), (6, .int x6)]) E dX1_findGains_93 (by decide) rfl ?_
  obtain ⟨v3, ev3, hm⟩ := nm_some hm
  refine zr_iinc (j := 7) (lv' := [(6, .int v3), (5, .int v2), (7, .int y0), (0, .ref (zw_ad P 39)), (1, .ref (zw_ad P b1)), (2, .int x2), (3, .int x3), (4, .int x4)]) E dX1_findGains_95 rfl ev3 (by decide) rfl ?_
  refine zr_goto (tgt := 34) E dX1_findGains_98 (by decide) ?_
  refine zr_sub (lv' := [(0, .ref (zw_ad P 39)), (1, .ref (zw_ad P b1)), (2, .int x2), (3, .int x3), (4, .int x4), (5, .int v2), (6, .int v3)]) [3, 4, 5, 6, 7, 1, 0] rfl ?_
  exact hR34 s1 x2 x3 x4 v2 v3 hm
set_option maxRecDepth 100000 in
set_option maxHeartbeats 4000000 in
theorem t_X1_findGains_34 {B : zw_B} {P : zw_P} {τ : zw_S} (b1 : Nat) (hb1 : zw_bk b1 = true) (E : zf B P cX1_findGains RX1 8 4) (hr : B.2.2.2.2.2.2.2.2.1.sig.returnType = none) (R23 : zw_S → Int32 → Int32 → Int32 → Option zw_S) (hR23 : ∀ (σ : zw_S) (x2 : Int32) (x3 : Int32) (x4 : Int32), R23 σ x2 x3 x4 = some τ → zw_G B P (zq_v B P τ) 8 σ 23 [(0, .ref (zw_ad P 39)), (1, .ref (zw_ad P b1)), (2, .int x2), (3, .int x3), (4, .int x4)] []) : ∀ (n : Nat) (σ : zw_S) (x2 : Int32) (x3 : Int32) (x4 : Int32) (x5 : Int32) (x6 : Int32), m_X1_findGains_34 b1 R23 n σ x2 x3 x4 x5 x6 = some τ → zw_G B P (zq_v B P τ) 8 σ 34 [(0, .ref (zw_ad P 39)), (1, .ref (zw_ad P b1)), (2, .int x2), (3, .int x3), (4, .int x4), (5, .int x5), (6, .int x6)] [] := by
  intro n
  induction n with
  | zero => intro σ x2 x3 x4 x5 x6 hm; cases hm
  | succ n ih =>
    intro σ x2 x3 x4 x5 x6 hm
    unfold m_X1_findGains_34 at hm
    refine zr_iload E dX1_findGains_34 6 rfl ?_
    refine zr_bipush (v := 8) E dX1_findGains_36 (by decide) ?_
    refine zr_icmp_ge (tgt := 101) E dX1_findGains_38 (by decide) (fun c1 => ?_) (fun c1 => ?_)
    · rw [if_pos c1] at hm
      refine zr_sub (lv' := [(0, .ref (zw_ad P 39)), (1, .ref (zw_ad P b1)), (2, .int x2), (3, .int x3), (4, .int x4), (5, .int x5)]) [0, 1, 2, 3, 4, 5] rfl ?_
      exact t_X1_findGains_101 b1 hb1 E hr R23 hR23 σ x2 x3 x4 x5 hm
    · rw [if_neg c1] at hm
      refine zr_iload_n E dX1_findGains_41 3 rfl ?_
      refine zr_iload E dX1_findGains_42 6 rfl ?_
      refine zr_iushr E dX1_findGains_44 ?_
      refine zr_iconst (v := 1) E dX1_findGains_45 (by decide) ?_
      refine zr_iand E dX1_findGains_46 ?_
      refine zr_iconst (v := 1) E dX1_findGains_47 (by decide) ?_
      refine zr_icmp_ne (tgt := 68) E dX1_findGains_48 (by decide) (fun c2 => ?_) (fun c2 => ?_)
      · rw [if_neg c2] at hm
        refine zr_iconst (v := 0) E dX1_findGains_68 (by decide) ?_
        refine zr_sub (lv' := [(0, .ref (zw_ad P 39)), (1, .ref (zw_ad P b1)), (2, .int x2), (3, .int x3), (4, .int x4), (5, .int x5), (6, .int x6)]) [0, 1, 2, 3, 4, 5, 6] rfl ?_
        exact t_X1_findGains_69 b1 hb1 E hr R23 hR23 (m_X1_findGains_34 b1 R23 n) ih σ x2 x3 x4 x5 x6 0 hm
      · rw [if_pos c2] at hm
        refine zr_aload_n E dX1_findGains_51 1 rfl ?_
        refine zr_aload_n E dX1_findGains_52 0 rfl ?_
        refine fg_X1_11 E dX1_findGains_53 ?_
        refine zr_iload E dX1_findGains_56 4 rfl ?_
        obtain ⟨hv3, v3, ev3, hm⟩ := rd_some hm
        refine zr_iald E ac_40 hv3 ev3 dX1_findGains_58 ?_
        refine zr_iload E dX1_findGains_59 6 rfl ?_
        refine zr_iload_n E dX1_findGains_61 2 rfl ?_
        obtain ⟨r5, s4, os4, hm⟩ := cl_some hm
        refine zr_cSi (st := []) E mw_690 cm_X1_gainOf (c_X1_gainOf B.2.1 P b1 hb1 σ v3 x6 x2) os4 ⟨by decide, by decide⟩ rfl rfl (Nat.le_of_ble_eq_true rfl) dX1_findGains_62 ?_
        refine zr_goto (tgt := 69) E dX1_findGains_65 (by decide) ?_
        refine zr_sub (lv' := [(0, .ref (zw_ad P 39)), (1, .ref (zw_ad P b1)), (2, .int x2), (3, .int x3), (4, .int x4), (5, .int x5), (6, .int x6)]) [0, 1, 2, 3, 4, 5, 6] rfl ?_
        exact t_X1_findGains_69 b1 hb1 E hr R23 hR23 (m_X1_findGains_34 b1 R23 n) ih s4 x2 x3 x4 x5 x6 r5 hm
set_option maxRecDepth 100000 in
set_option maxHeartbeats 4000000 in
theorem t_X1_findGains_23 {B : zw_B} {P : zw_P} {τ : zw_S} (b1 : Nat) (hb1 : zw_bk b1 = true) (E : zf B P cX1_findGains RX1 8 4) (hr : B.2.2.2.2.2.2.2.2.1.sig.returnType = none) : ∀ (n : Nat) (σ : zw_S) (x2 : Int32) (x3 : Int32) (x4 : Int32), m_X1_findGains_23 b1 n σ x2 x3 x4 = some τ → zw_G B P (zq_v B P τ) 8 σ 23 [(0, .ref (zw_ad P 39)), (1, .ref (zw_ad P b1)), (2, .int x2), (3, .int x3), (4, .int x4)] [] := by
  intro n
  induction n with
  | zero => intro σ x2 x3 x4 hm; cases hm
  | succ n ih =>
    intro σ x2 x3 x4 hm
    unfold m_X1_findGains_23 at hm
    refine zr_iload E dX1_findGains_23 4 rfl ?_
    refine zr_if_lt (tgt := 126) E dX1_findGains_25 (by decide) (fun c1 => ?_) (fun c1 => ?_)
    · rw [if_pos c1] at hm
      exact zr_vret E hr hm dX1_findGains_126
    · rw [if_neg c1] at hm
      refine zr_iconst (v := 0) E dX1_findGains_28 (by decide) ?_
      refine zr_istore (lv' := [(5, .int 0), (0, .ref (zw_ad P 39)), (1, .ref (zw_ad P b1)), (2, .int x2), (3, .int x3), (4, .int x4)]) E dX1_findGains_29 (by decide) rfl ?_
      refine zr_iconst (v := 0) E dX1_findGains_31 (by decide) ?_
      refine zr_istore (lv' := [(6, .int 0), (5, .int 0), (0, .ref (zw_ad P 39)), (1, .ref (zw_ad P b1)), (2, .int x2), (3, .int x3), (4, .int x4)]) E dX1_findGains_32 (by decide) rfl ?_
      refine zr_sub (lv' := [(0, .ref (zw_ad P 39)), (1, .ref (zw_ad P b1)), (2, .int x2), (3, .int x3), (4, .int x4), (5, .int 0), (6, .int 0)]) [2, 3, 4, 5, 6, 1, 0] rfl ?_
      exact t_X1_findGains_34 b1 hb1 E hr (m_X1_findGains_23 b1 n) ih 200 σ x2 x3 x4 0 0 hm
set_option maxRecDepth 100000 in
set_option maxHeartbeats 4000000 in
theorem c_X1_findGains (l : Launch) (P : zw_P) (b1 : Nat) (hb1 : zw_bk b1 = true) (σ : zw_S) (x2 : Int32) : zc_v l P yX1_findGains cX1_findGains 8 4 [.ref (zw_ad P 39), .ref (zw_ad P b1), .int x2] σ (m_X1_findGains b1 σ x2) := by
  refine zc_v.of (by decide) (Nat.le_of_ble_eq_true rfl) (fun B τ E hl hr hm => ?_)
  subst hl
  refine zr_sub (lv' := [(0, .ref (zw_ad P 39)), (1, .ref (zw_ad P b1)), (2, .int x2)]) [0, 1, 2] rfl ?_
  unfold m_X1_findGains at hm
  refine zr_aload_n E dX1_findGains_0 1 rfl ?_
  obtain ⟨r2, s1, os1, hm⟩ := cl_some hm
  refine zr_cVi (st := []) E mw_689 cm_X0_freeNames (c_X0_freeNames B.2.1 P b1 hb1 σ) os1 (rc_bk P hb1) ⟨by decide, by decide⟩ rfl rfl (Nat.le_of_ble_eq_true rfl) dX1_findGains_1 ?_
  refine zr_istore_n (lv' := [(3, .int r2), (0, .ref (zw_ad P 39)), (1, .ref (zw_ad P b1)), (2, .int x2)]) E dX1_findGains_4 (by decide) rfl ?_
  refine zr_aload_n E dX1_findGains_5 1 rfl ?_
  refine fg_X1_24 E dX1_findGains_6 ?_
  refine zr_aload_n E dX1_findGains_9 1 rfl ?_
  refine fg_X1_35 E dX1_findGains_10 ?_
  refine zr_iconst (v := 0) E dX1_findGains_13 (by decide) ?_
  obtain ⟨hs3, s3, es3, hm⟩ := wt_some hm
  refine zr_iast E ac_44 hs3 es3 dX1_findGains_14 ?_
  refine zr_aload_n E dX1_findGains_15 1 rfl ?_
  refine fg_X1_35 E dX1_findGains_16 ?_
  refine zr_iconst (v := 1) E dX1_findGains_19 (by decide) ?_
  refine zr_isub E dX1_findGains_20 ?_
  obtain ⟨v4, ev4, hm⟩ := nm_some hm
  refine zr_top ev4 ?_
  refine zr_istore (lv' := [(4, .int v4), (3, .int r2), (0, .ref (zw_ad P 39)), (1, .ref (zw_ad P b1)), (2, .int x2)]) E dX1_findGains_21 (by decide) rfl ?_
  refine zr_sub (lv' := [(0, .ref (zw_ad P 39)), (1, .ref (zw_ad P b1)), (2, .int x2), (3, .int r2), (4, .int v4)]) [2, 3, 4, 1, 0] rfl ?_
  exact t_X1_findGains_23 b1 hb1 E hr 200 s3 x2 r2 v4 hm
-- X1_begin
set_option maxRecDepth 100000 in
set_option maxHeartbeats 4000000 in
theorem t_X1_begin_21 {B : zw_B} {P : zw_P} {τ : zw_S} (b1 : Nat) (hb1 : zw_bk b1 = true) (E : zf B P cX1_begin RX1 4 5) (hr : B.2.2.2.2.2.2.2.2.1.sig.returnType = none) : ∀ (n : Nat) (σ : zw_S) (x2 : Int32) (x3 : Int32), m_X1_begin_21 b1 n σ x2 x3 = some τ → zw_G B P (zq_v B P τ) 4 σ 21 [(0, .ref (zw_ad P 39)), (1, .ref (zw_ad P b1)), (2, .int x2), (3, .int x3)] [] := by
  intro n
  induction n with
  | zero => intro σ x2 x3 hm; cases hm
  | succ n ih =>
    intro σ x2 x3 hm
    unfold m_X1_begin_21 at hm
    refine zr_iload_n E dX1_begin_21 3 rfl ?_
    refine zr_aload_n E dX1_begin_22 1 rfl ?_
    refine fg_X1_39 hb1 E dX1_begin_23 ?_
    refine zr_icmp_ge (tgt := 78) E dX1_begin_26 (by decide) (fun c1 => ?_) (fun c1 => ?_)
    · rw [if_pos c1] at hm
      exact zr_vret E hr hm dX1_begin_78
    · rw [if_neg c1] at hm
      refine zr_aload_n E dX1_begin_29 1 rfl ?_
      refine fg_X1_44 hb1 E dX1_begin_30 ?_
      refine zr_iload_n E dX1_begin_33 3 rfl ?_
      obtain ⟨hv2, v2, ev2, hm⟩ := rd_some hm
      refine zr_iald E (ab_7 hb1) hv2 ev2 dX1_begin_34 ?_
      refine zr_if_lt (tgt := 72) E dX1_begin_35 (by decide) (fun c3 => ?_) (fun c3 => ?_)
      · rw [if_pos c3] at hm
        obtain ⟨v4, ev4, hm⟩ := nm_some hm
        refine zr_iinc (j := 3) (lv' := [(3, .int v4), (0, .ref (zw_ad P 39)), (1, .ref (zw_ad P b1)), (2, .int x2)]) E dX1_begin_72 rfl ev4 (by decide) rfl ?_
        refine zr_goto (tgt := 21) E dX1_begin_75 (by decide) ?_
        refine zr_sub (lv' := [(0, .ref (zw_ad P 39)), (1, .ref (zw_ad P b1)), (2, .int x2), (3, .int v4)]) [1, 2, 3, 0] rfl ?_
        exact ih σ x2 v4 hm
      · rw [if_neg c3] at hm
        refine zr_aload_n E dX1_begin_38 1 rfl ?_
        refine zr_aload_n E dX1_begin_39 1 rfl ?_
        refine fg_X1_44 hb1 E dX1_begin_40 ?_
        refine zr_iload_n E dX1_begin_43 3 rfl ?_
        obtain ⟨hv5, v5, ev5, hm⟩ := rd_some hm
        refine zr_iald E (ab_7 hb1) hv5 ev5 dX1_begin_44 ?_
        obtain ⟨r7, s6, os6, hm⟩ := cl_some hm
        refine zr_cVi (st := []) E mw_709 cm_X0_isOpen (c_X0_isOpen B.2.1 P b1 hb1 σ v5) os6 (rc_bk P hb1) ⟨by decide, by decide⟩ rfl rfl (Nat.le_of_ble_eq_true rfl) dX1_begin_45 ?_
        refine zr_if_eq (tgt := 72) E dX1_begin_48 (by decide) (fun c8 => ?_) (fun c8 => ?_)
        · rw [if_pos c8] at hm
          obtain ⟨v9, ev9, hm⟩ := nm_some hm
          refine zr_iinc (j := 3) (lv' := [(3, .int v9), (0, .ref (zw_ad P 39)), (1, .ref (zw_ad P b1)), (2, .int x2)]) E dX1_begin_72 rfl ev9 (by decide) rfl ?_
          refine zr_goto (tgt := 21) E dX1_begin_75 (by decide) ?_
          refine zr_sub (lv' := [(0, .ref (zw_ad P 39)), (1, .ref (zw_ad P b1)), (2, .int x2), (3, .int v9)]) [1, 2, 3, 0] rfl ?_
          exact ih s6 x2 v9 hm
        · rw [if_neg c8] at hm
          refine zr_aload_n E dX1_begin_51 0 rfl ?_
          refine zr_dup E dX1_begin_52 rfl ?_
          refine fg_X1_61 E dX1_begin_53 ?_
          refine zr_aload_n E dX1_begin_56 1 rfl ?_
          refine zr_iload_n E dX1_begin_57 3 rfl ?_
          refine zr_aload_n E dX1_begin_58 1 rfl ?_
          refine fg_X1_44 hb1 E dX1_begin_59 ?_
          refine zr_iload_n E dX1_begin_62 3 rfl ?_
          obtain ⟨hv10, v10, ev10, hm⟩ := rd_some hm
          refine zr_iald E (ab_7 hb1) hv10 ev10 dX1_begin_63 ?_
          refine zr_iload_n E dX1_begin_64 2 rfl ?_
          obtain ⟨r12, s11, os11, hm⟩ := cl_some hm
          refine zr_cSi (st := [.int (s6 39 8), .ref (zw_ad P 39)]) E mw_690 cm_X1_gainOf (c_X1_gainOf B.2.1 P b1 hb1 s6 x3 v10 x2) os11 ⟨by decide, by decide⟩ rfl rfl (Nat.le_of_ble_eq_true rfl) dX1_begin_65 ?_
          refine zr_iadd E dX1_begin_68 ?_
          obtain ⟨s13, es13, hm⟩ := nm_some hm
          refine fp_X1_61 E es13 dX1_begin_69 ?_
          obtain ⟨v14, ev14, hm⟩ := nm_some hm
          refine zr_iinc (j := 3) (lv' := [(3, .int v14), (0, .ref (zw_ad P 39)), (1, .ref (zw_ad P b1)), (2, .int x2)]) E dX1_begin_72 rfl ev14 (by decide) rfl ?_
          refine zr_goto (tgt := 21) E dX1_begin_75 (by decide) ?_
          refine zr_sub (lv' := [(0, .ref (zw_ad P 39)), (1, .ref (zw_ad P b1)), (2, .int x2), (3, .int v14)]) [1, 2, 3, 0] rfl ?_
          exact ih s13 x2 v14 hm
set_option maxRecDepth 100000 in
set_option maxHeartbeats 4000000 in
theorem c_X1_begin (l : Launch) (P : zw_P) (b1 : Nat) (hb1 : zw_bk b1 = true) (σ : zw_S) (x2 : Int32) : zc_v l P yX1_begin cX1_begin 4 5 [.ref (zw_ad P 39), .ref (zw_ad P b1), .int x2] σ (m_X1_begin b1 σ x2) := by
  refine zc_v.of (by decide) (Nat.le_of_ble_eq_true rfl) (fun B τ E hl hr hm => ?_)
  subst hl
  refine zr_sub (lv' := [(0, .ref (zw_ad P 39)), (1, .ref (zw_ad P b1)), (2, .int x2)]) [0, 1, 2] rfl ?_
  unfold m_X1_begin at hm
  refine zr_aload_n E dX1_begin_0 0 rfl ?_
  refine zr_iconst (v := (-1)) E dX1_begin_1 (by decide) ?_
  obtain ⟨s1, es1, hm⟩ := nm_some hm
  refine fp_X1_50 E es1 dX1_begin_2 ?_
  refine zr_aload_n E dX1_begin_5 0 rfl ?_
  refine zr_aload_n E dX1_begin_6 1 rfl ?_
  refine zr_iload_n E dX1_begin_7 2 rfl ?_
  obtain ⟨s2, os2, hm⟩ := cv_some hm
  refine zr_cVv (st := []) E mw_684 cm_X1_findGains (c_X1_findGains B.2.1 P b1 hb1 s1 x2) os2 (rc_39 P) ⟨by decide, by decide⟩ rfl rfl (Nat.le_of_ble_eq_true rfl) dX1_begin_8 ?_
  refine zr_aload_n E dX1_begin_11 0 rfl ?_
  refine zr_aload_n E dX1_begin_12 1 rfl ?_
  obtain ⟨r4, s3, os3, hm⟩ := cl_some hm
  refine zr_cVi (st := [.ref (zw_ad P 39)]) E mw_708 cm_X0_endedWorth (c_X0_endedWorth B.2.1 P b1 hb1 s2) os3 (rc_bk P hb1) ⟨by decide, by decide⟩ rfl rfl (Nat.le_of_ble_eq_true rfl) dX1_begin_13 ?_
  obtain ⟨s5, es5, hm⟩ := nm_some hm
  refine fp_X1_61 E es5 dX1_begin_16 ?_
  refine zr_iconst (v := 0) E dX1_begin_19 (by decide) ?_
  refine zr_istore_n (lv' := [(3, .int 0), (0, .ref (zw_ad P 39)), (1, .ref (zw_ad P b1)), (2, .int x2)]) E dX1_begin_20 (by decide) rfl ?_
  refine zr_sub (lv' := [(0, .ref (zw_ad P 39)), (1, .ref (zw_ad P b1)), (2, .int x2), (3, .int 0)]) [1, 2, 3, 0] rfl ?_
  exact t_X1_begin_21 b1 hb1 E hr 200 s5 x2 0 hm
-- X1_weigh
set_option maxRecDepth 100000 in
set_option maxHeartbeats 4000000 in
theorem t_X1_weigh_44 {B : zw_B} {P : zw_P} {τ : zw_S} (b1 : Nat) (hb1 : zw_bk b1 = true) (E : zf B P cX1_weigh RX1 4 5) (hr : B.2.2.2.2.2.2.2.2.1.sig.returnType = none) (σ : zw_S) (x2 : Int32) (hm : m_X1_weigh_44 b1 σ x2 = some τ) : zw_G B P (zq_v B P τ) 4 σ 44 [(0, .ref (zw_ad P 39)), (2, .int x2)] [] := by
  unfold m_X1_weigh_44 at hm
  refine zr_aload_n E dX1_weigh_44 0 rfl ?_
  refine fg_X1_31 E dX1_weigh_45 ?_
  refine zr_aload_n E dX1_weigh_48 0 rfl ?_
  refine fg_X1_27 E dX1_weigh_49 ?_
  refine zr_iload_n E dX1_weigh_52 1 rfl ?_
  obtain ⟨s1, os1, hm⟩ := cv_some hm
  refine zr_cVv (st := []) E mw_720 cm_X5_go (c_X5_go B.2.1 P 25 bk_25 σ x2) os1 (rc_37 P) ⟨by decide, by decide⟩ rfl rfl (Nat.le_of_ble_eq_true rfl) dX1_weigh_53 ?_
  refine zr_aload_n E dX1_weigh_56 0 rfl ?_
  refine fg_X1_27 E dX1_weigh_57 ?_
  obtain ⟨r3, s2, os2, hm⟩ := cl_some hm
  refine zr_cVi (st := []) E mw_708 cm_X0_endedWorth (c_X0_endedWorth B.2.1 P 25 bk_25 s1) os2 (rc_bk P bk_25) ⟨by decide, by decide⟩ rfl rfl (Nat.le_of_ble_eq_true rfl) dX1_weigh_60 ?_
  refine zr_istore_n (lv' := [(3, .int r3), (0, .ref (zw_ad P 39)), (2, .int x2)]) E dX1_weigh_63 (by decide) rfl ?_
  refine zr_iload_n E dX1_weigh_64 0 rfl ?_
  refine zr_aload_n E dX1_weigh_65 1 rfl ?_
  refine fg_X1_50 E dX1_weigh_66 ?_
  refine zr_icmp_le (tgt := 94) E dX1_weigh_69 (by decide) (fun c4 => ?_) (fun c4 => ?_)
  · rw [if_pos c4] at hm
    exact zr_vret E hr hm dX1_weigh_94
  · rw [if_neg c4] at hm
    refine zr_aload_n E dX1_weigh_72 1 rfl ?_
    refine zr_iload_n E dX1_weigh_73 0 rfl ?_
    obtain ⟨s5, es5, hm⟩ := nm_some hm
    refine fp_X1_50 E es5 dX1_weigh_74 ?_
    refine zr_aload_n E dX1_weigh_77 1 rfl ?_
    refine fg_X1_15 E dX1_weigh_78 ?_
    refine zr_iconst (v := 0) E dX1_weigh_81 (by decide) ?_
    refine zr_aload_n E dX1_weigh_82 1 rfl ?_
    refine fg_X1_18 E dX1_weigh_83 ?_
    refine zr_iconst (v := 0) E dX1_weigh_86 (by decide) ?_
    refine zr_aload_n E dX1_weigh_87 1 rfl ?_
    refine fg_X1_35 E dX1_weigh_88 ?_
    obtain ⟨hz7, hm⟩ := tt_some hm
    obtain ⟨s6, es6, hm⟩ := nm_some hm
    refine zr_copy (h := 4) E mw_718 mC_1 mC_2 mC_3 ac_41 ac_42 (zcp_1 hz7) (zcp_2 hz7) (zcp_3 hz7) (zcp_4 hz7) (zcp_5 hz7) (Nat.le_of_ble_eq_true rfl) es6 dX1_weigh_91 ?_
    exact zr_vret E hr hm dX1_weigh_94
set_option maxRecDepth 100000 in
set_option maxHeartbeats 4000000 in
theorem t_X1_weigh_10 {B : zw_B} {P : zw_P} {τ : zw_S} (b1 : Nat) (hb1 : zw_bk b1 = true) (E : zf B P cX1_weigh RX1 4 5) (hr : B.2.2.2.2.2.2.2.2.1.sig.returnType = none) : ∀ (n : Nat) (σ : zw_S) (x2 : Int32) (x3 : Int32), m_X1_weigh_10 b1 n σ x2 x3 = some τ → zw_G B P (zq_v B P τ) 4 σ 10 [(0, .ref (zw_ad P 39)), (2, .int x2), (3, .int x3)] [] := by
  intro n
  induction n with
  | zero => intro σ x2 x3 hm; cases hm
  | succ n ih =>
    intro σ x2 x3 hm
    unfold m_X1_weigh_10 at hm
    refine zr_iload_n E dX1_weigh_10 2 rfl ?_
    refine zr_aload_n E dX1_weigh_11 0 rfl ?_
    refine fg_X1_35 E dX1_weigh_12 ?_
    refine zr_icmp_ge (tgt := 44) E dX1_weigh_15 (by decide) (fun c1 => ?_) (fun c1 => ?_)
    · rw [if_pos c1] at hm
      refine zr_sub (lv' := [(0, .ref (zw_ad P 39)), (2, .int x2)]) [0, 1] rfl ?_
      exact t_X1_weigh_44 b1 hb1 E hr σ x2 hm
    · rw [if_neg c1] at hm
      refine zr_aload_n E dX1_weigh_18 0 rfl ?_
      refine fg_X1_27 E dX1_weigh_19 ?_
      refine fg_X1_44 bk_25 E dX1_weigh_22 ?_
      refine zr_aload_n E dX1_weigh_25 0 rfl ?_
      refine fg_X1_11 E dX1_weigh_26 ?_
      refine zr_iload_n E dX1_weigh_29 2 rfl ?_
      obtain ⟨hv2, v2, ev2, hm⟩ := rd_some hm
      refine zr_iald E ac_40 hv2 ev2 dX1_weigh_30 ?_
      refine zr_aload_n E dX1_weigh_31 0 rfl ?_
      refine fg_X1_15 E dX1_weigh_32 ?_
      refine zr_iload_n E dX1_weigh_35 2 rfl ?_
      obtain ⟨hv3, v3, ev3, hm⟩ := rd_some hm
      refine zr_iald E ac_41 hv3 ev3 dX1_weigh_36 ?_
      obtain ⟨hs4, s4, es4, hm⟩ := wt_some hm
      refine zr_iast E ac_32 hs4 es4 dX1_weigh_37 ?_
      obtain ⟨v5, ev5, hm⟩ := nm_some hm
      refine zr_iinc (j := 2) (lv' := [(3, .int v5), (0, .ref (zw_ad P 39)), (2, .int x2)]) E dX1_weigh_38 rfl ev5 (by decide) rfl ?_
      refine zr_goto (tgt := 10) E dX1_weigh_41 (by decide) ?_
      refine zr_sub (lv' := [(0, .ref (zw_ad P 39)), (2, .int x2), (3, .int v5)]) [1, 2, 0] rfl ?_
      exact ih s4 x2 v5 hm
set_option maxRecDepth 100000 in
set_option maxHeartbeats 4000000 in
theorem c_X1_weigh (l : Launch) (P : zw_P) (b1 : Nat) (hb1 : zw_bk b1 = true) (σ : zw_S) (x2 : Int32) : zc_v l P yX1_weigh cX1_weigh 4 5 [.ref (zw_ad P 39), .ref (zw_ad P b1), .int x2] σ (m_X1_weigh b1 σ x2) := by
  refine zc_v.of (by decide) (Nat.le_of_ble_eq_true rfl) (fun B τ E hl hr hm => ?_)
  subst hl
  refine zr_sub (lv' := [(0, .ref (zw_ad P 39)), (1, .ref (zw_ad P b1)), (2, .int x2)]) [0, 1, 2] rfl ?_
  unfold m_X1_weigh at hm
  refine zr_aload_n E dX1_weigh_0 0 rfl ?_
  refine fg_X1_27 E dX1_weigh_1 ?_
  refine zr_aload_n E dX1_weigh_4 1 rfl ?_
  obtain ⟨s1, os1, hm⟩ := cv_some hm
  refine zr_cVv (st := []) E mw_719 cm_X0_setTo (c_X0_setTo B.2.1 P 25 b1 bk_25 hb1 σ) os1 (rc_bk P bk_25) ⟨by decide, by decide⟩ rfl rfl (Nat.le_of_ble_eq_true rfl) dX1_weigh_5 ?_
  refine zr_iconst (v := 0) E dX1_weigh_8 (by decide) ?_
  refine zr_istore_n (lv' := [(3, .int 0), (0, .ref (zw_ad P 39)), (1, .ref (zw_ad P b1)), (2, .int x2)]) E dX1_weigh_9 (by decide) rfl ?_
  refine zr_sub (lv' := [(0, .ref (zw_ad P 39)), (2, .int x2), (3, .int 0)]) [1, 3, 0] rfl ?_
  exact t_X1_weigh_10 b1 hb1 E hr 200 s1 x2 0 hm
-- X1_weighFrom
set_option maxRecDepth 100000 in
set_option maxHeartbeats 4000000 in
theorem t_X1_weighFrom_55 {B : zw_B} {P : zw_P} {τ : zw_S} {h0 : Nat} (hh0 : 5 ≤ h0) {rec : Nat → zw_S → Int32 → Int32 → Int32 → Int32 → Option zw_S} (hrec : ∀ (b1 : Nat) (hb1 : zw_bk b1 = true) (σ : zw_S) (x2 : Int32) (x3 : Int32) (x4 : Int32) (x5 : Int32), zc_v B.2.1 P yX1_weighFrom cX1_weighFrom 7 h0 [.ref (zw_ad P 39), .ref (zw_ad P b1), .int x2, .int x3, .int x4, .int x5] σ (rec b1 σ x2 x3 x4 x5)) (b1 : Nat) (hb1 : zw_bk b1 = true) (E : zf B P cX1_weighFrom RX1 7 (h0 + 1)) (hr : B.2.2.2.2.2.2.2.2.1.sig.returnType = none) : ∀ (n : Nat) (σ : zw_S) (x2 : Int32) (x3 : Int32) (x4 : Int32) (x5 : Int32) (x6 : Int32), m_X1_weighFrom_55 rec b1 n σ x2 x3 x4 x5 x6 = some τ → zw_G B P (zq_v B P τ) 7 σ 55 [(0, .ref (zw_ad P 39)), (1, .ref (zw_ad P b1)), (2, .int x2), (3, .int x3), (4, .int x4), (5, .int x5), (6, .int x6)] [] := by
  intro n
  induction n with
  | zero => intro σ x2 x3 x4 x5 x6 hm; cases hm
  | succ n ih =>
    intro σ x2 x3 x4 x5 x6 hm
    unfold m_X1_weighFrom_55 at hm
    refine zr_iload E dX1_weighFrom_55 6 rfl ?_
    refine zr_bipush (v := 8) E dX1_weighFrom_57 (by decide) ?_
    refine zr_icmp_ge (tgt := 120) E dX1_weighFrom_59 (by decide) (fun c1 => ?_) (fun c1 => ?_)
    · rw [if_pos c1] at hm
      exact zr_vret E hr hm dX1_weighFrom_120
    · rw [if_neg c1] at hm
      refine zr_iload E dX1_weighFrom_62 4 rfl ?_
      refine zr_iload E dX1_weighFrom_64 6 rfl ?_
      refine zr_iushr E dX1_weighFrom_66 ?_
      refine zr_iconst (v := 1) E dX1_weighFrom_67 (by decide) ?_
      refine zr_iand E dX1_weighFrom_68 ?_
      refine zr_iconst (v := 1) E dX1_weighFrom_69 (by decide) ?_
      refine zr_icmp_ne (tgt := 114) E dX1_weighFrom_70 (by decide) (fun c2 => ?_) (fun c2 => ?_)
      · rw [if_neg c2] at hm
        obtain ⟨v3, ev3, hm⟩ := nm_some hm
        refine zr_iinc (j := 6) (lv' := [(6, .int v3), (0, .ref (zw_ad P 39)), (1, .ref (zw_ad P b1)), (2, .int x2), (3, .int x3), (4, .int x4), (5, .int x5)]) E dX1_weighFrom_114 rfl ev3 (by decide) rfl ?_
        refine zr_goto (tgt := 55) E dX1_weighFrom_117 (by decide) ?_
        refine zr_sub (lv' := [(0, .ref (zw_ad P 39)), (1, .ref (zw_ad P b1)), (2, .int x2), (3, .int x3), (4, .int x4), (5, .int x5), (6, .int v3)]) [1, 2, 3, 4, 5, 6, 0] rfl ?_
        exact ih σ x2 x3 x4 x5 v3 hm
      · rw [if_pos c2] at hm
        refine zr_aload_n E dX1_weighFrom_73 0 rfl ?_
        refine fg_X1_15 E dX1_weighFrom_74 ?_
        refine zr_iload_n E dX1_weighFrom_77 3 rfl ?_
        refine zr_iload E dX1_weighFrom_78 6 rfl ?_
        obtain ⟨hs4, s4, es4, hm⟩ := wt_some hm
        refine zr_iast E ac_41 hs4 es4 dX1_weighFrom_80 ?_
        refine zr_aload_n E dX1_weighFrom_81 0 rfl ?_
        refine zr_aload_n E dX1_weighFrom_82 1 rfl ?_
        refine zr_iload_n E dX1_weighFrom_83 2 rfl ?_
        refine zr_iload_n E dX1_weighFrom_84 3 rfl ?_
        refine zr_iconst (v := 1) E dX1_weighFrom_85 (by decide) ?_
        refine zr_iadd E dX1_weighFrom_86 ?_
        refine zr_iload E dX1_weighFrom_87 4 rfl ?_
        refine zr_iconst (v := 1) E dX1_weighFrom_89 (by decide) ?_
        refine zr_iload E dX1_weighFrom_90 6 rfl ?_
        refine zr_ishl E dX1_weighFrom_92 ?_
        refine zr_iconst (v := (-1)) E dX1_weighFrom_93 (by decide) ?_
        refine zr_ixor E dX1_weighFrom_94 ?_
        refine zr_iand E dX1_weighFrom_95 ?_
        refine zr_iload E dX1_weighFrom_96 5 rfl ?_
        refine zr_aload_n E dX1_weighFrom_98 0 rfl ?_
        refine fg_X1_21 E dX1_weighFrom_99 ?_
        refine zr_iload_n E dX1_weighFrom_102 3 rfl ?_
        refine zr_bipush (v := 8) E dX1_weighFrom_103 (by decide) ?_
        refine zr_imul E dX1_weighFrom_105 ?_
        refine zr_iload E dX1_weighFrom_106 6 rfl ?_
        refine zr_iadd E dX1_weighFrom_108 ?_
        obtain ⟨hv5, v5, ev5, hm⟩ := rd_some hm
        refine zr_iald E ac_43 hv5 ev5 dX1_weighFrom_109 ?_
        refine zr_iadd E dX1_weighFrom_110 ?_
        obtain ⟨s6, os6, hm⟩ := cv_some hm
        refine zr_cVv (st := []) E mw_721 cm_X1_weighFrom (hrec b1 hb1 s4 x2 (x3 + 1) (x4 &&& ((1 <<< (x6 &&& 31)) ^^^ (-1))) (x5 + v5)) os6 (rc_39 P) ⟨by omega, by omega⟩ rfl rfl (Nat.le_of_ble_eq_true rfl) dX1_weighFrom_111 ?_
        obtain ⟨v7, ev7, hm⟩ := nm_some hm
        refine zr_iinc (j := 6) (lv' := [(6, .int v7), (0, .ref (zw_ad P 39)), (1, .ref (zw_ad P b1)), (2, .int x2), (3, .int x3), (4, .int x4), (5, .int x5)]) E dX1_weighFrom_114 rfl ev7 (by decide) rfl ?_
        refine zr_goto (tgt := 55) E dX1_weighFrom_117 (by decide) ?_
        refine zr_sub (lv' := [(0, .ref (zw_ad P 39)), (1, .ref (zw_ad P b1)), (2, .int x2), (3, .int x3), (4, .int x4), (5, .int x5), (6, .int v7)]) [1, 2, 3, 4, 5, 6, 0] rfl ?_
        exact ih s6 x2 x3 x4 x5 v7 hm
set_option maxRecDepth 100000 in
set_option maxHeartbeats 4000000 in
theorem c_X1_weighFrom_of (l : Launch) (P : zw_P) {h0 : Nat} (hh0 : 5 ≤ h0) {rec : Nat → zw_S → Int32 → Int32 → Int32 → Int32 → Option zw_S} (hrec : ∀ (b1 : Nat) (hb1 : zw_bk b1 = true) (σ : zw_S) (x2 : Int32) (x3 : Int32) (x4 : Int32) (x5 : Int32), zc_v l P yX1_weighFrom cX1_weighFrom 7 h0 [.ref (zw_ad P 39), .ref (zw_ad P b1), .int x2, .int x3, .int x4, .int x5] σ (rec b1 σ x2 x3 x4 x5)) (b1 : Nat) (hb1 : zw_bk b1 = true) (σ : zw_S) (x2 : Int32) (x3 : Int32) (x4 : Int32) (x5 : Int32) : zc_v l P yX1_weighFrom cX1_weighFrom 7 (h0 + 1) [.ref (zw_ad P 39), .ref (zw_ad P b1), .int x2, .int x3, .int x4, .int x5] σ (mb_X1_weighFrom rec b1 σ x2 x3 x4 x5) := by
  refine zc_v.of (by decide) (Nat.le_of_ble_eq_true rfl) (fun B τ E hl hr hm => ?_)
  subst hl
  refine zr_sub (lv' := [(0, .ref (zw_ad P 39)), (1, .ref (zw_ad P b1)), (2, .int x2), (3, .int x3), (4, .int x4), (5, .int x5)]) [0, 1, 2, 3, 4, 5] rfl ?_
  unfold mb_X1_weighFrom at hm
  refine zr_iload E dX1_weighFrom_0 5 rfl ?_
  refine zr_aload_n E dX1_weighFrom_2 0 rfl ?_
  refine fg_X1_24 E dX1_weighFrom_3 ?_
  refine zr_iload_n E dX1_weighFrom_6 3 rfl ?_
  obtain ⟨hv1, v1, ev1, hm⟩ := rd_some hm
  refine zr_iald E ac_44 hv1 ev1 dX1_weighFrom_7 ?_
  refine zr_iadd E dX1_weighFrom_8 ?_
  refine zr_aload_n E dX1_weighFrom_9 0 rfl ?_
  refine fg_X1_50 E dX1_weighFrom_10 ?_
  refine zr_icmp_gt (tgt := 17) E dX1_weighFrom_13 (by decide) (fun c2 => ?_) (fun c2 => ?_)
  · rw [if_pos c2] at hm
    refine zr_iload_n E dX1_weighFrom_17 3 rfl ?_
    refine zr_aload_n E dX1_weighFrom_18 0 rfl ?_
    refine fg_X1_35 E dX1_weighFrom_19 ?_
    refine zr_icmp_lt (tgt := 32) E dX1_weighFrom_22 (by decide) (fun c3 => ?_) (fun c3 => ?_)
    · rw [if_pos c3] at hm
      refine zr_aload_n E dX1_weighFrom_32 0 rfl ?_
      refine fg_X1_15 E dX1_weighFrom_33 ?_
      refine zr_iload_n E dX1_weighFrom_36 3 rfl ?_
      refine zr_iconst (v := (-1)) E dX1_weighFrom_37 (by decide) ?_
      obtain ⟨hs4, s4, es4, hm⟩ := wt_some hm
      refine zr_iast E ac_41 hs4 es4 dX1_weighFrom_38 ?_
      refine zr_aload_n E dX1_weighFrom_39 0 rfl ?_
      refine zr_aload_n E dX1_weighFrom_40 1 rfl ?_
      refine zr_iload_n E dX1_weighFrom_41 2 rfl ?_
      refine zr_iload_n E dX1_weighFrom_42 3 rfl ?_
      refine zr_iconst (v := 1) E dX1_weighFrom_43 (by decide) ?_
      refine zr_iadd E dX1_weighFrom_44 ?_
      refine zr_iload E dX1_weighFrom_45 4 rfl ?_
      refine zr_iload E dX1_weighFrom_47 5 rfl ?_
      obtain ⟨s5, os5, hm⟩ := cv_some hm
      refine zr_cVv (st := []) E mw_721 cm_X1_weighFrom (hrec b1 hb1 s4 x2 (x3 + 1) x4 x5) os5 (rc_39 P) ⟨by omega, by omega⟩ rfl rfl (Nat.le_of_ble_eq_true rfl) dX1_weighFrom_49 ?_
      refine zr_iconst (v := 0) E dX1_weighFrom_52 (by decide) ?_
      refine zr_istore (lv' := [(6, .int 0), (0, .ref (zw_ad P 39)), (1, .ref (zw_ad P b1)), (2, .int x2), (3, .int x3), (4, .int x4), (5, .int x5)]) E dX1_weighFrom_53 (by decide) rfl ?_
      refine zr_sub (lv' := [(0, .ref (zw_ad P 39)), (1, .ref (zw_ad P b1)), (2, .int x2), (3, .int x3), (4, .int x4), (5, .int x5), (6, .int 0)]) [1, 2, 3, 4, 5, 6, 0] rfl ?_
      exact t_X1_weighFrom_55 hh0 hrec b1 hb1 E hr 200 s5 x2 x3 x4 x5 0 hm
    · rw [if_neg c3] at hm
      refine zr_aload_n E dX1_weighFrom_25 0 rfl ?_
      refine zr_aload_n E dX1_weighFrom_26 1 rfl ?_
      refine zr_iload_n E dX1_weighFrom_27 2 rfl ?_
      obtain ⟨s6, os6, hm⟩ := cv_some hm
      refine zr_cVv (st := []) E mw_714 cm_X1_weigh (c_X1_weigh B.2.1 P b1 hb1 σ x2) os6 (rc_39 P) ⟨by omega, by omega⟩ rfl rfl (Nat.le_of_ble_eq_true rfl) dX1_weighFrom_28 ?_
      exact zr_vret E hr hm dX1_weighFrom_31
  · rw [if_neg c2] at hm
    exact zr_vret E hr hm dX1_weighFrom_16
theorem cf_X1_weighFrom (l : Launch) (P : zw_P) : ∀ (n : Nat) (b1 : Nat) (hb1 : zw_bk b1 = true) (σ : zw_S) (x2 : Int32) (x3 : Int32) (x4 : Int32) (x5 : Int32), zc_v l P yX1_weighFrom cX1_weighFrom 7 (5 + n) [.ref (zw_ad P 39), .ref (zw_ad P b1), .int x2, .int x3, .int x4, .int x5] σ (mf_X1_weighFrom n b1 σ x2 x3 x4 x5) := by
  intro n
  induction n with
  | zero => intro b1 hb1 σ x2 x3 x4 x5 τ ho; cases ho
  | succ n ih => intro b1 hb1 σ x2 x3 x4 x5; exact c_X1_weighFrom_of l P (h0 := 5 + n) (by omega) ih b1 hb1 σ x2 x3 x4 x5
theorem c_X1_weighFrom (l : Launch) (P : zw_P) (b1 : Nat) (hb1 : zw_bk b1 = true) (σ : zw_S) (x2 : Int32) (x3 : Int32) (x4 : Int32) (x5 : Int32) : zc_v l P yX1_weighFrom cX1_weighFrom 7 11 [.ref (zw_ad P 39), .ref (zw_ad P b1), .int x2, .int x3, .int x4, .int x5] σ (m_X1_weighFrom b1 σ x2 x3 x4 x5) := cf_X1_weighFrom l P 6 b1 hb1 σ x2 x3 x4 x5
-- X1_carryOut
set_option maxRecDepth 100000 in
set_option maxHeartbeats 4000000 in
theorem t_X1_carryOut_4 {B : zw_B} {P : zw_P} {r : Int32} {τ : zw_S} (b1 : Nat) (hb1 : zw_bk b1 = true) (E : zf B P cX1_carryOut RX1 4 0) (hr : B.2.2.2.2.2.2.2.2.1.sig.returnType = some .int) : ∀ (n : Nat) (σ : zw_S) (x2 : Int32) (x3 : Int32), m_X1_carryOut_4 b1 n σ x2 x3 = some (r, τ) → zw_G B P (zq_i B P r τ) 4 σ 4 [(0, .ref (zw_ad P 39)), (1, .ref (zw_ad P b1)), (2, .int x2), (3, .int x3)] [] := by
  intro n
  induction n with
  | zero => intro σ x2 x3 hm; cases hm
  | succ n ih =>
    intro σ x2 x3 hm
    unfold m_X1_carryOut_4 at hm
    refine zr_iload_n E dX1_carryOut_4 3 rfl ?_
    refine zr_aload_n E dX1_carryOut_5 0 rfl ?_
    refine fg_X1_35 E dX1_carryOut_6 ?_
    refine zr_icmp_ge (tgt := 47) E dX1_carryOut_9 (by decide) (fun c1 => ?_) (fun c1 => ?_)
    · rw [if_pos c1] at hm
      refine zr_iload_n E dX1_carryOut_47 2 rfl ?_
      exact zr_iret E hr rfl hm dX1_carryOut_48
    · rw [if_neg c1] at hm
      refine zr_aload_n E dX1_carryOut_12 1 rfl ?_
      refine fg_X1_44 hb1 E dX1_carryOut_13 ?_
      refine zr_aload_n E dX1_carryOut_16 0 rfl ?_
      refine fg_X1_11 E dX1_carryOut_17 ?_
      refine zr_iload_n E dX1_carryOut_20 3 rfl ?_
      obtain ⟨hv2, v2, ev2, hm⟩ := rd_some hm
      refine zr_iald E ac_40 hv2 ev2 dX1_carryOut_21 ?_
      refine zr_aload_n E dX1_carryOut_22 0 rfl ?_
      refine fg_X1_18 E dX1_carryOut_23 ?_
      refine zr_iload_n E dX1_carryOut_26 3 rfl ?_
      obtain ⟨hv3, v3, ev3, hm⟩ := rd_some hm
      refine zr_iald E ac_42 hv3 ev3 dX1_carryOut_27 ?_
      obtain ⟨hs4, s4, es4, hm⟩ := wt_some hm
      refine zr_iast E (ab_7 hb1) hs4 es4 dX1_carryOut_28 ?_
      refine zr_aload_n E dX1_carryOut_29 0 rfl ?_
      refine fg_X1_18 E dX1_carryOut_30 ?_
      refine zr_iload_n E dX1_carryOut_33 3 rfl ?_
      obtain ⟨hv5, v5, ev5, hm⟩ := rd_some hm
      refine zr_iald E ac_42 hv5 ev5 dX1_carryOut_34 ?_
      refine zr_if_lt (tgt := 41) E dX1_carryOut_35 (by decide) (fun c6 => ?_) (fun c6 => ?_)
      · rw [if_pos c6] at hm
        obtain ⟨v7, ev7, hm⟩ := nm_some hm
        refine zr_iinc (j := 3) (lv' := [(3, .int v7), (0, .ref (zw_ad P 39)), (1, .ref (zw_ad P b1)), (2, .int x2)]) E dX1_carryOut_41 rfl ev7 (by decide) rfl ?_
        refine zr_goto (tgt := 4) E dX1_carryOut_44 (by decide) ?_
        refine zr_sub (lv' := [(0, .ref (zw_ad P 39)), (1, .ref (zw_ad P b1)), (2, .int x2), (3, .int v7)]) [1, 2, 3, 0] rfl ?_
        exact ih s4 x2 v7 hm
      · rw [if_neg c6] at hm
        obtain ⟨v8, ev8, hm⟩ := nm_some hm
        refine zr_iinc (j := 2) (lv' := [(2, .int v8), (0, .ref (zw_ad P 39)), (1, .ref (zw_ad P b1)), (3, .int x3)]) E dX1_carryOut_38 rfl ev8 (by decide) rfl ?_
        obtain ⟨v9, ev9, hm⟩ := nm_some hm
        refine zr_iinc (j := 3) (lv' := [(3, .int v9), (2, .int v8), (0, .ref (zw_ad P 39)), (1, .ref (zw_ad P b1))]) E dX1_carryOut_41 rfl ev9 (by decide) rfl ?_
        refine zr_goto (tgt := 4) E dX1_carryOut_44 (by decide) ?_
        refine zr_sub (lv' := [(0, .ref (zw_ad P 39)), (1, .ref (zw_ad P b1)), (2, .int v8), (3, .int v9)]) [2, 3, 1, 0] rfl ?_
        exact ih s4 v8 v9 hm
set_option maxRecDepth 100000 in
set_option maxHeartbeats 4000000 in
theorem c_X1_carryOut (l : Launch) (P : zw_P) (b1 : Nat) (hb1 : zw_bk b1 = true) (σ : zw_S) : zc_i l P yX1_carryOut cX1_carryOut 4 .int 0 [.ref (zw_ad P 39), .ref (zw_ad P b1)] σ (m_X1_carryOut b1 σ) := by
  refine zc_i.of (by decide) (Nat.le_of_ble_eq_true rfl) (fun B r τ E hl hr hm => ?_)
  subst hl
  refine zr_sub (lv' := [(0, .ref (zw_ad P 39)), (1, .ref (zw_ad P b1))]) [0, 1] rfl ?_
  unfold m_X1_carryOut at hm
  refine zr_iconst (v := 0) E dX1_carryOut_0 (by decide) ?_
  refine zr_istore_n (lv' := [(2, .int 0), (0, .ref (zw_ad P 39)), (1, .ref (zw_ad P b1))]) E dX1_carryOut_1 (by decide) rfl ?_
  refine zr_iconst (v := 0) E dX1_carryOut_2 (by decide) ?_
  refine zr_istore_n (lv' := [(3, .int 0), (2, .int 0), (0, .ref (zw_ad P 39)), (1, .ref (zw_ad P b1))]) E dX1_carryOut_3 (by decide) rfl ?_
  refine zr_sub (lv' := [(0, .ref (zw_ad P 39)), (1, .ref (zw_ad P b1)), (2, .int 0), (3, .int 0)]) [2, 3, 1, 0] rfl ?_
  exact t_X1_carryOut_4 b1 hb1 E hr 200 σ 0 0 hm
