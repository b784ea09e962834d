-- X7_status
set_option maxRecDepth 100000 in
set_option maxHeartbeats 4000000 in
theorem t_X7_status_41 {B : zw_B} {P : zw_P} {r : Int32} {τ : zw_S} (E : zf B P cX7_status RX7 4 1) (hr : B.2.2.2.2.2.2.2.2.1.sig.returnType = some .int) (R25 : zw_S → Int32 → Int32 → Int32 → Option (Int32 × zw_S)) (hR25 : ∀ (σ : zw_S) (x1 : Int32) (x2 : Int32) (x3 : Int32), R25 σ x1 x2 x3 = some (r, τ) → zw_G B P (zq_i B P r τ) 4 σ 25 [(0, .ref (zw_ad P 57)), (1, .int x1), (2, .int x2), (3, .int x3)] []) (σ : zw_S) (x1 : Int32) (x3 : Int32) (y0 : Int32) (hm : m_X7_status_41 R25 σ x1 x3 y0 = some (r, τ)) : zw_G B P (zq_i B P r τ) 4 σ 41 [(0, .ref (zw_ad P 57)), (1, .int x1), (3, .int x3)] [.int y0] := by
  unfold m_X7_status_41 at hm
  refine zr_aload_n E dX7_status_41 0 rfl ?_
  refine fg_X7_22 E dX7_status_42 ?_
  refine zr_iload_n E dX7_status_45 2 rfl ?_
  obtain ⟨hv1, v1, ev1, hm⟩ := rd_some hm
  refine zr_iald E ac_62 hv1 ev1 dX7_status_46 ?_
  refine zr_goto (tgt := 51) E dX7_status_47 (by decide) ?_
  refine zr_iadd E dX7_status_51 ?_
  obtain ⟨v2, ev2, hm⟩ := nm_some hm
  refine zr_top ev2 ?_
  refine zr_istore_n (lv' := [(2, .int v2), (0, .ref (zw_ad P 57)), (1, .int x1), (3, .int x3)]) E dX7_status_52 (by decide) rfl ?_
  obtain ⟨v3, ev3, hm⟩ := nm_some hm
  refine zr_iinc (j := 3) (lv' := [(3, .int v3), (2, .int v2), (0, .ref (zw_ad P 57)), (1, .int x1)]) E dX7_status_53 rfl ev3 (by decide) rfl ?_
  refine zr_goto (tgt := 25) E dX7_status_56 (by decide) ?_
  refine zr_sub (lv' := [(0, .ref (zw_ad P 57)), (1, .int x1), (2, .int v2), (3, .int v3)]) [2, 3, 1, 0] rfl ?_
  exact hR25 σ x1 v2 v3 hm
set_option maxRecDepth 100000 in
set_option maxHeartbeats 4000000 in
theorem t_X7_status_25 {B : zw_B} {P : zw_P} {r : Int32} {τ : zw_S} (E : zf B P cX7_status RX7 4 1) (hr : B.2.2.2.2.2.2.2.2.1.sig.returnType = some .int) : ∀ (n : Nat) (σ : zw_S) (x1 : Int32) (x2 : Int32) (x3 : Int32), m_X7_status_25 n σ x1 x2 x3 = some (r, τ) → zw_G B P (zq_i B P r τ) 4 σ 25 [(0, .ref (zw_ad P 57)), (1, .int x1), (2, .int x2), (3, .int x3)] [] := by
  intro n
  induction n with
  | zero => intro σ x1 x2 x3 hm; cases hm
  | succ n ih =>
    intro σ x1 x2 x3 hm
    unfold m_X7_status_25 at hm
    refine zr_iload_n E dX7_status_25 3 rfl ?_
    refine zr_bipush (v := 7) E dX7_status_26 (by decide) ?_
    refine zr_icmp_ge (tgt := 59) E dX7_status_28 (by decide) (fun c1 => ?_) (fun c1 => ?_)
    · rw [if_pos c1] at hm
      refine zr_iload_n E dX7_status_59 2 rfl ?_
      exact zr_iret E hr rfl hm dX7_status_60
    · rw [if_neg c1] at hm
      refine zr_iload_n E dX7_status_31 2 rfl ?_
      refine zr_iload_n E dX7_status_32 1 rfl ?_
      refine zr_if_lt (tgt := 41) E dX7_status_33 (by decide) (fun c2 => ?_) (fun c2 => ?_)
      · rw [if_pos c2] at hm
        refine zr_sub (lv' := [(0, .ref (zw_ad P 57)), (1, .int x1), (3, .int x3)]) [0, 1, 3] rfl ?_
        exact t_X7_status_41 E hr (m_X7_status_25 n) ih σ x1 x3 x2 hm
      · rw [if_neg c2] at hm
        refine zr_iload_n E dX7_status_36 1 rfl ?_
        refine zr_iload_n E dX7_status_37 3 rfl ?_
        refine zr_icmp_ne (tgt := 50) E dX7_status_38 (by decide) (fun c3 => ?_) (fun c3 => ?_)
        · rw [if_neg c3] at hm
          refine zr_iconst (v := 0) E dX7_status_50 (by decide) ?_
          refine zr_iadd E dX7_status_51 ?_
          obtain ⟨v4, ev4, hm⟩ := nm_some hm
          refine zr_top ev4 ?_
          refine zr_istore_n (lv' := [(2, .int v4), (0, .ref (zw_ad P 57)), (1, .int x1), (3, .int x3)]) E dX7_status_52 (by decide) rfl ?_
          obtain ⟨v5, ev5, hm⟩ := nm_some hm
          refine zr_iinc (j := 3) (lv' := [(3, .int v5), (2, .int v4), (0, .ref (zw_ad P 57)), (1, .int x1)]) E dX7_status_53 rfl ev5 (by decide) rfl ?_
          refine zr_goto (tgt := 25) E dX7_status_56 (by decide) ?_
          refine zr_sub (lv' := [(0, .ref (zw_ad P 57)), (1, .int x1), (2, .int v4), (3, .int v5)]) [2, 3, 1, 0] rfl ?_
          exact ih σ x1 v4 v5 hm
        · rw [if_pos c3] at hm
          refine zr_sub (lv' := [(0, .ref (zw_ad P 57)), (1, .int x1), (3, .int x3)]) [0, 1, 3] rfl ?_
          exact t_X7_status_41 E hr (m_X7_status_25 n) ih σ x1 x3 x2 hm
set_option maxRecDepth 100000 in
set_option maxHeartbeats 4000000 in
theorem c_X7_status (l : Launch) (P : zw_P) (σ : zw_S) (x1 : Int32) : zc_i l P yX7_status cX7_status 4 .int 1 [.ref (zw_ad P 57), .int x1] σ (m_X7_status σ x1) := by
  refine zc_i.of (by decide) (Nat.le_of_ble_eq_true rfl) (fun B r τ E hl hr hm => ?_)
  subst hl
  refine zr_sub (lv' := [(0, .ref (zw_ad P 57)), (1, .int x1)]) [0, 1] rfl ?_
  unfold m_X7_status at hm
  refine zr_iload_n E dX7_status_0 1 rfl ?_
  refine zr_i2l E dX7_status_1 ?_
  refine zr_ldc2 E mw_1136 dX7_status_2 ?_
  refine zr_ldc2 E mw_156 dX7_status_5 ?_
  obtain ⟨r2, s1, os1, hm⟩ := cl_some hm
  refine zr_cSi (st := []) E mw_120 cm_X7_in (c_X7_in B.2.1 P σ x1.toInt64 (-1) 6) os1 ⟨by decide, by decide⟩ rfl rfl (Nat.le_of_ble_eq_true rfl) dX7_status_8 ?_
  refine zr_if_ne (tgt := 21) E dX7_status_11 (by decide) (fun c3 => ?_) (fun c3 => ?_)
  · rw [if_neg c3] at hm
    refine zr_iconst (v := 0) E dX7_status_21 (by decide) ?_
    refine zr_istore_n (lv' := [(2, .int 0), (0, .ref (zw_ad P 57)), (1, .int x1)]) E dX7_status_22 (by decide) rfl ?_
    refine zr_iconst (v := 0) E dX7_status_23 (by decide) ?_
    refine zr_istore_n (lv' := [(3, .int 0), (2, .int 0), (0, .ref (zw_ad P 57)), (1, .int x1)]) E dX7_status_24 (by decide) rfl ?_
    refine zr_sub (lv' := [(0, .ref (zw_ad P 57)), (1, .int x1), (2, .int 0), (3, .int 0)]) [2, 3, 1, 0] rfl ?_
    exact t_X7_status_25 E hr 200 s1 x1 0 0 hm
  · rw [if_pos c3] at hm
    refine zr_aload_n E dX7_status_14 0 rfl ?_
    refine zr_ldc E mw_115 dX7_status_15 ?_
    obtain ⟨r5, s4, os4, hm⟩ := cl_some hm
    refine zr_cVi (st := []) E mw_127 cm_X7_finds (c_X7_finds B.2.1 P s1 (-1000001)) os4 (rc_57 P) ⟨by decide, by decide⟩ rfl rfl (Nat.le_of_ble_eq_true rfl) dX7_status_17 ?_
    exact zr_iret E hr rfl hm dX7_status_20
