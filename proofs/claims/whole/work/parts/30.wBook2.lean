-- J7_fill_53178
set_option maxRecDepth 100000 in
set_option maxHeartbeats 4000000 in
theorem t_J7_fill_53178_5 {B : zw_B} {P : zw_P} {τ : zw_S} (b0 : Nat) (nb0 : Nat) (hb0 : zw_ar b0 = true ∧ zw_ln b0 = nb0) (E : zf B P cJ7_fill_53178 RJ7 4 0) (hr : B.2.2.2.2.2.2.2.2.1.sig.returnType = none) : ∀ (n : Nat) (σ : zw_S) (x1 : Int32) (x2 : Int32) (x3 : Int32), m_J7_fill_53178_5 b0 nb0 n σ x1 x2 x3 = some τ → zw_G B P (zq_v B P τ) 4 σ 5 [(0, .ref (zw_ad P b0)), (1, .int x1), (2, .int x2), (3, .int x3)] [] := by
  intro n
  induction n with
  | zero => intro σ x1 x2 x3 hm; cases hm
  | succ n ih =>
    intro σ x1 x2 x3 hm
    unfold m_J7_fill_53178_5 at hm
    refine zr_iload_n E dJ7_fill_53178_5 2 rfl ?_
    refine zr_iload_n E dJ7_fill_53178_6 3 rfl ?_
    refine zr_icmp_ge (tgt := 20) E dJ7_fill_53178_7 (by decide) (fun c1 => ?_) (fun c1 => ?_)
    · rw [if_pos c1] at hm
      exact zr_vret E hr hm dJ7_fill_53178_20
    · rw [if_neg c1] at hm
      refine zr_aload_n E dJ7_fill_53178_10 0 rfl ?_
      refine zr_iload_n E dJ7_fill_53178_11 2 rfl ?_
      refine zr_iload_n E dJ7_fill_53178_12 1 rfl ?_
      obtain ⟨hs2, s2, es2, hm⟩ := wt_some hm
      refine zr_iast E hb0 hs2 es2 dJ7_fill_53178_13 ?_
      obtain ⟨v3, ev3, hm⟩ := nm_some hm
      refine zr_iinc (j := 2) (lv' := [(2, .int v3), (0, .ref (zw_ad P b0)), (1, .int x1), (3, .int x3)]) E dJ7_fill_53178_14 rfl ev3 (by decide) rfl ?_
      refine zr_goto (tgt := 5) E dJ7_fill_53178_17 (by decide) ?_
      refine zr_sub (lv' := [(0, .ref (zw_ad P b0)), (1, .int x1), (2, .int v3), (3, .int x3)]) [1, 2, 0, 3] rfl ?_
      exact ih s2 x1 v3 x3 hm
set_option maxRecDepth 100000 in
set_option maxHeartbeats 4000000 in
theorem c_J7_fill_53178 (l : Launch) (P : zw_P) (b0 : Nat) (nb0 : Nat) (hb0 : zw_ar b0 = true ∧ zw_ln b0 = nb0) (σ : zw_S) (x1 : Int32) : zc_v l P yJ7_fill_53178 cJ7_fill_53178 4 0 [.ref (zw_ad P b0), .int x1] σ (m_J7_fill_53178 b0 nb0 σ x1) := by
  refine zc_v.of (by decide) (Nat.le_of_ble_eq_true rfl) (fun B τ E hl hr hm => ?_)
  subst hl
  refine zr_sub (lv' := [(0, .ref (zw_ad P b0)), (1, .int x1)]) [0, 1] rfl ?_
  unfold m_J7_fill_53178 at hm
  refine zr_iconst (v := 0) E dJ7_fill_53178_0 (by decide) ?_
  refine zr_istore_n (lv' := [(2, .int 0), (0, .ref (zw_ad P b0)), (1, .int x1)]) E dJ7_fill_53178_1 (by decide) rfl ?_
  refine zr_aload_n E dJ7_fill_53178_2 1 rfl ?_
  refine zr_alen E hb0 rfl dJ7_fill_53178_3 ?_
  obtain ⟨v1, ev1, hm⟩ := nm_some hm
  refine zr_top ev1 ?_
  refine zr_istore_n (lv' := [(3, .int v1), (2, .int 0), (0, .ref (zw_ad P b0)), (1, .int x1)]) E dJ7_fill_53178_4 (by decide) rfl ?_
  refine zr_sub (lv' := [(0, .ref (zw_ad P b0)), (1, .int x1), (2, .int 0), (3, .int v1)]) [2, 3, 1, 0] rfl ?_
  exact t_J7_fill_53178_5 b0 nb0 hb0 E hr 200 σ x1 0 v1 hm
-- X0_findHands
set_option maxRecDepth 100000 in
set_option maxHeartbeats 4000000 in
theorem t_X0_findHands_12 {B : zw_B} {P : zw_P} {τ : zw_S} (k : Nat) (b1 : Nat) (nb1 : Nat) (hk : zw_bk k = true) (hb1 : zw_ar b1 = true ∧ zw_ln b1 = nb1) (E : zf B P cX0_findHands RX0 3 1) (hr : B.2.2.2.2.2.2.2.2.1.sig.returnType = none) : ∀ (n : Nat) (σ : zw_S) (x2 : Int32), m_X0_findHands_12 k b1 nb1 n σ x2 = some τ → zw_G B P (zq_v B P τ) 3 σ 12 [(0, .ref (zw_ad P k)), (1, .ref (zw_ad P b1)), (2, .int x2)] [] := by
  intro n
  induction n with
  | zero => intro σ x2 hm; cases hm
  | succ n ih =>
    intro σ x2 hm
    unfold m_X0_findHands_12 at hm
    refine zr_iload_n E dX0_findHands_12 2 rfl ?_
    refine zr_if_lt (tgt := 39) E dX0_findHands_13 (by decide) (fun c1 => ?_) (fun c1 => ?_)
    · rw [if_pos c1] at hm
      exact zr_vret E hr hm dX0_findHands_39
    · rw [if_neg c1] at hm
      refine zr_aload_n E dX0_findHands_16 0 rfl ?_
      refine zr_iload_n E dX0_findHands_17 2 rfl ?_
      obtain ⟨r3, s2, os2, hm⟩ := cl_some hm
      refine zr_cVi (st := []) E mw_273 cm_X0_isAtHand (c_X0_isAtHand B.2.1 P k hk σ x2) os2 (rc_bk P hk) ⟨by decide, by decide⟩ rfl rfl (Nat.le_of_ble_eq_true rfl) dX0_findHands_18 ?_
      refine zr_if_eq (tgt := 33) E dX0_findHands_21 (by decide) (fun c4 => ?_) (fun c4 => ?_)
      · rw [if_pos c4] at hm
        obtain ⟨v5, ev5, hm⟩ := nm_some hm
        refine zr_iinc (j := 2) (lv' := [(2, .int v5), (0, .ref (zw_ad P k)), (1, .ref (zw_ad P b1))]) E dX0_findHands_33 rfl ev5 (by decide) rfl ?_
        refine zr_goto (tgt := 12) E dX0_findHands_36 (by decide) ?_
        refine zr_sub (lv' := [(0, .ref (zw_ad P k)), (1, .ref (zw_ad P b1)), (2, .int v5)]) [1, 2, 0] rfl ?_
        exact ih s2 v5 hm
      · rw [if_neg c4] at hm
        refine zr_aload_n E dX0_findHands_24 1 rfl ?_
        refine zr_aload_n E dX0_findHands_25 0 rfl ?_
        refine fg_X0_25 hk E dX0_findHands_26 ?_
        refine zr_iload_n E dX0_findHands_29 2 rfl ?_
        obtain ⟨hv6, v6, ev6, hm⟩ := rd_some hm
        refine zr_iald E (ab_4 hk) hv6 ev6 dX0_findHands_30 ?_
        refine zr_iload_n E dX0_findHands_31 2 rfl ?_
        obtain ⟨hs7, s7, es7, hm⟩ := wt_some hm
        refine zr_iast E hb1 hs7 es7 dX0_findHands_32 ?_
        obtain ⟨v8, ev8, hm⟩ := nm_some hm
        refine zr_iinc (j := 2) (lv' := [(2, .int v8), (0, .ref (zw_ad P k)), (1, .ref (zw_ad P b1))]) E dX0_findHands_33 rfl ev8 (by decide) rfl ?_
        refine zr_goto (tgt := 12) E dX0_findHands_36 (by decide) ?_
        refine zr_sub (lv' := [(0, .ref (zw_ad P k)), (1, .ref (zw_ad P b1)), (2, .int v8)]) [1, 2, 0] rfl ?_
        exact ih s7 v8 hm
set_option maxRecDepth 100000 in
set_option maxHeartbeats 4000000 in
theorem c_X0_findHands (l : Launch) (P : zw_P) (k : Nat) (b1 : Nat) (nb1 : Nat) (hk : zw_bk k = true) (hb1 : zw_ar b1 = true ∧ zw_ln b1 = nb1) (σ : zw_S) : zc_v l P yX0_findHands cX0_findHands 3 1 [.ref (zw_ad P k), .ref (zw_ad P b1)] σ (m_X0_findHands k b1 nb1 σ) := by
  refine zc_v.of (by decide) (Nat.le_of_ble_eq_true rfl) (fun B τ E hl hr hm => ?_)
  subst hl
  refine zr_sub (lv' := [(0, .ref (zw_ad P k)), (1, .ref (zw_ad P b1))]) [0, 1] rfl ?_
  unfold m_X0_findHands at hm
  refine zr_aload_n E dX0_findHands_0 1 rfl ?_
  refine zr_iconst (v := (-1)) E dX0_findHands_1 (by decide) ?_
  obtain ⟨s1, os1, hm⟩ := cv_some hm
  refine zr_cSv (st := []) E mw_52 cm_J7_fill_53178 (c_J7_fill_53178 B.2.1 P b1 nb1 hb1 σ (-1)) os1 ⟨by decide, by decide⟩ rfl rfl (Nat.le_of_ble_eq_true rfl) dX0_findHands_2 ?_
  refine zr_aload_n E dX0_findHands_5 0 rfl ?_
  refine fg_X0_58 hk E dX0_findHands_6 ?_
  refine zr_iconst (v := 1) E dX0_findHands_9 (by decide) ?_
  refine zr_isub E dX0_findHands_10 ?_
  obtain ⟨v2, ev2, hm⟩ := nm_some hm
  refine zr_top ev2 ?_
  refine zr_istore_n (lv' := [(2, .int v2), (0, .ref (zw_ad P k)), (1, .ref (zw_ad P b1))]) E dX0_findHands_11 (by decide) rfl ?_
  refine zr_sub (lv' := [(0, .ref (zw_ad P k)), (1, .ref (zw_ad P b1)), (2, .int v2)]) [1, 2, 0] rfl ?_
  exact t_X0_findHands_12 k b1 nb1 hk hb1 E hr 200 s1 v2 hm
-- X0_worthOf
set_option maxRecDepth 100000 in
set_option maxHeartbeats 4000000 in
theorem t_X0_worthOf_4 {B : zw_B} {P : zw_P} {r : Int32} {τ : zw_S} (k : Nat) (hk : zw_bk k = true) (E : zf B P cX0_worthOf RX0 4 0) (hr : B.2.2.2.2.2.2.2.2.1.sig.returnType = some .int) : ∀ (n : Nat) (σ : zw_S) (x1 : Int32) (x2 : Int32) (x3 : Int32), m_X0_worthOf_4 k n σ x1 x2 x3 = some (r, τ) → zw_G B P (zq_i B P r τ) 4 σ 4 [(0, .ref (zw_ad P k)), (1, .int x1), (2, .int x2), (3, .int x3)] [] := by
  intro n
  induction n with
  | zero => intro σ x1 x2 x3 hm; cases hm
  | succ n ih =>
    intro σ x1 x2 x3 hm
    unfold m_X0_worthOf_4 at hm
    refine zr_iload_n E dX0_worthOf_4 3 rfl ?_
    refine zr_bipush (v := 8) E dX0_worthOf_5 (by decide) ?_
    refine zr_icmp_ge (tgt := 34) E dX0_worthOf_7 (by decide) (fun c1 => ?_) (fun c1 => ?_)
    · rw [if_pos c1] at hm
      refine zr_iload_n E dX0_worthOf_34 2 rfl ?_
      exact zr_iret E hr rfl hm dX0_worthOf_35
    · rw [if_neg c1] at hm
      refine zr_iload_n E dX0_worthOf_10 1 rfl ?_
      refine zr_iload_n E dX0_worthOf_11 3 rfl ?_
      refine zr_iushr E dX0_worthOf_12 ?_
      refine zr_iconst (v := 1) E dX0_worthOf_13 (by decide) ?_
      refine zr_iand E dX0_worthOf_14 ?_
      refine zr_iconst (v := 1) E dX0_worthOf_15 (by decide) ?_
      refine zr_icmp_ne (tgt := 28) E dX0_worthOf_16 (by decide) (fun c2 => ?_) (fun c2 => ?_)
      · rw [if_neg c2] at hm
        obtain ⟨v3, ev3, hm⟩ := nm_some hm
        refine zr_iinc (j := 3) (lv' := [(3, .int v3), (0, .ref (zw_ad P k)), (1, .int x1), (2, .int x2)]) E dX0_worthOf_28 rfl ev3 (by decide) rfl ?_
        refine zr_goto (tgt := 4) E dX0_worthOf_31 (by decide) ?_
        refine zr_sub (lv' := [(0, .ref (zw_ad P k)), (1, .int x1), (2, .int x2), (3, .int v3)]) [1, 2, 3, 0] rfl ?_
        exact ih σ x1 x2 v3 hm
      · rw [if_pos c2] at hm
        refine zr_iload_n E dX0_worthOf_19 2 rfl ?_
        refine zr_aload_n E dX0_worthOf_20 0 rfl ?_
        refine fg_X0_15 hk E dX0_worthOf_21 ?_
        refine zr_iload_n E dX0_worthOf_24 3 rfl ?_
        obtain ⟨hv4, v4, ev4, hm⟩ := rd_some hm
        refine zr_iald E (ab_1 hk) hv4 ev4 dX0_worthOf_25 ?_
        refine zr_iadd E dX0_worthOf_26 ?_
        obtain ⟨v5, ev5, hm⟩ := nm_some hm
        refine zr_top ev5 ?_
        refine zr_istore_n (lv' := [(2, .int v5), (0, .ref (zw_ad P k)), (1, .int x1), (3, .int x3)]) E dX0_worthOf_27 (by decide) rfl ?_
        obtain ⟨v6, ev6, hm⟩ := nm_some hm
        refine zr_iinc (j := 3) (lv' := [(3, .int v6), (2, .int v5), (0, .ref (zw_ad P k)), (1, .int x1)]) E dX0_worthOf_28 rfl ev6 (by decide) rfl ?_
        refine zr_goto (tgt := 4) E dX0_worthOf_31 (by decide) ?_
        refine zr_sub (lv' := [(0, .ref (zw_ad P k)), (1, .int x1), (2, .int v5), (3, .int v6)]) [2, 3, 1, 0] rfl ?_
        exact ih σ x1 v5 v6 hm
set_option maxRecDepth 100000 in
set_option maxHeartbeats 4000000 in
theorem c_X0_worthOf (l : Launch) (P : zw_P) (k : Nat) (hk : zw_bk k = true) (σ : zw_S) (x1 : Int32) : zc_i l P yX0_worthOf cX0_worthOf 4 .int 0 [.ref (zw_ad P k), .int x1] σ (m_X0_worthOf k σ x1) := by
  refine zc_i.of (by decide) (Nat.le_of_ble_eq_true rfl) (fun B r τ E hl hr hm => ?_)
  subst hl
  refine zr_sub (lv' := [(0, .ref (zw_ad P k)), (1, .int x1)]) [0, 1] rfl ?_
  unfold m_X0_worthOf at hm
  refine zr_iconst (v := 0) E dX0_worthOf_0 (by decide) ?_
  refine zr_istore_n (lv' := [(2, .int 0), (0, .ref (zw_ad P k)), (1, .int x1)]) E dX0_worthOf_1 (by decide) rfl ?_
  refine zr_iconst (v := 0) E dX0_worthOf_2 (by decide) ?_
  refine zr_istore_n (lv' := [(3, .int 0), (2, .int 0), (0, .ref (zw_ad P k)), (1, .int x1)]) E dX0_worthOf_3 (by decide) rfl ?_
  refine zr_sub (lv' := [(0, .ref (zw_ad P k)), (1, .int x1), (2, .int 0), (3, .int 0)]) [2, 3, 1, 0] rfl ?_
  exact t_X0_worthOf_4 k hk E hr 200 σ x1 0 0 hm
-- X0_endedWorth
set_option maxRecDepth 100000 in
set_option maxHeartbeats 4000000 in
theorem t_X0_endedWorth_29 {B : zw_B} {P : zw_P} {r : Int32} {τ : zw_S} (k : Nat) (hk : zw_bk k = true) (E : zf B P cX0_endedWorth RX0 3 1) (hr : B.2.2.2.2.2.2.2.2.1.sig.returnType = some .int) (σ : zw_S) (x1 : Int32) (hm : m_X0_endedWorth_29 k σ x1 = some (r, τ)) : zw_G B P (zq_i B P r τ) 3 σ 29 [(0, .ref (zw_ad P k)), (1, .int x1)] [] := by
  unfold m_X0_endedWorth_29 at hm
  refine zr_aload_n E dX0_endedWorth_29 0 rfl ?_
  refine zr_iload_n E dX0_endedWorth_30 1 rfl ?_
  refine zr_aload_n E dX0_endedWorth_31 0 rfl ?_
  obtain ⟨r2, s1, os1, hm⟩ := cl_some hm
  refine zr_cVi (st := [.int x1, .ref (zw_ad P k)]) E mw_252 cm_X0_openNames (c_X0_openNames B.2.1 P k hk σ) os1 (rc_bk P hk) ⟨by decide, by decide⟩ rfl rfl (Nat.le_of_ble_eq_true rfl) dX0_endedWorth_32 ?_
  refine zr_iconst (v := (-1)) E dX0_endedWorth_35 (by decide) ?_
  refine zr_ixor E dX0_endedWorth_36 ?_
  refine zr_iand E dX0_endedWorth_37 ?_
  obtain ⟨r4, s3, os3, hm⟩ := cl_some hm
  refine zr_cVi (st := []) E mw_571 cm_X0_worthOf (c_X0_worthOf B.2.1 P k hk s1 (x1 &&& (r2 ^^^ (-1)))) os3 (rc_bk P hk) ⟨by decide, by decide⟩ rfl rfl (Nat.le_of_ble_eq_true rfl) dX0_endedWorth_38 ?_
  exact zr_iret E hr rfl hm dX0_endedWorth_41
set_option maxRecDepth 100000 in
set_option maxHeartbeats 4000000 in
theorem t_X0_endedWorth_4 {B : zw_B} {P : zw_P} {r : Int32} {τ : zw_S} (k : Nat) (hk : zw_bk k = true) (E : zf B P cX0_endedWorth RX0 3 1) (hr : B.2.2.2.2.2.2.2.2.1.sig.returnType = some .int) : ∀ (n : Nat) (σ : zw_S) (x1 : Int32) (x2 : Int32), m_X0_endedWorth_4 k n σ x1 x2 = some (r, τ) → zw_G B P (zq_i B P r τ) 3 σ 4 [(0, .ref (zw_ad P k)), (1, .int x1), (2, .int x2)] [] := by
  intro n
  induction n with
  | zero => intro σ x1 x2 hm; cases hm
  | succ n ih =>
    intro σ x1 x2 hm
    unfold m_X0_endedWorth_4 at hm
    refine zr_iload_n E dX0_endedWorth_4 2 rfl ?_
    refine zr_aload_n E dX0_endedWorth_5 0 rfl ?_
    refine fg_X0_58 hk E dX0_endedWorth_6 ?_
    refine zr_icmp_ge (tgt := 29) E dX0_endedWorth_9 (by decide) (fun c1 => ?_) (fun c1 => ?_)
    · rw [if_pos c1] at hm
      refine zr_sub (lv' := [(0, .ref (zw_ad P k)), (1, .int x1)]) [0, 1] rfl ?_
      exact t_X0_endedWorth_29 k hk E hr σ x1 hm
    · rw [if_neg c1] at hm
      refine zr_iload_n E dX0_endedWorth_12 1 rfl ?_
      refine zr_iconst (v := 1) E dX0_endedWorth_13 (by decide) ?_
      refine zr_aload_n E dX0_endedWorth_14 0 rfl ?_
      refine fg_X0_25 hk E dX0_endedWorth_15 ?_
      refine zr_iload_n E dX0_endedWorth_18 2 rfl ?_
      obtain ⟨hv2, v2, ev2, hm⟩ := rd_some hm
      refine zr_iald E (ab_4 hk) hv2 ev2 dX0_endedWorth_19 ?_
      refine zr_ishl E dX0_endedWorth_20 ?_
      refine zr_ior E dX0_endedWorth_21 ?_
      obtain ⟨v3, ev3, hm⟩ := nm_some hm
      refine zr_top ev3 ?_
      refine zr_istore_n (lv' := [(1, .int v3), (0, .ref (zw_ad P k)), (2, .int x2)]) E dX0_endedWorth_22 (by decide) rfl ?_
      obtain ⟨v4, ev4, hm⟩ := nm_some hm
      refine zr_iinc (j := 2) (lv' := [(2, .int v4), (1, .int v3), (0, .ref (zw_ad P k))]) E dX0_endedWorth_23 rfl ev4 (by decide) rfl ?_
      refine zr_goto (tgt := 4) E dX0_endedWorth_26 (by decide) ?_
      refine zr_sub (lv' := [(0, .ref (zw_ad P k)), (1, .int v3), (2, .int v4)]) [2, 1, 0] rfl ?_
      exact ih σ v3 v4 hm
set_option maxRecDepth 100000 in
set_option maxHeartbeats 4000000 in
theorem c_X0_endedWorth (l : Launch) (P : zw_P) (k : Nat) (hk : zw_bk k = true) (σ : zw_S) : zc_i l P yX0_endedWorth cX0_endedWorth 3 .int 1 [.ref (zw_ad P k)] σ (m_X0_endedWorth k σ) := by
  refine zc_i.of (by decide) (Nat.le_of_ble_eq_true rfl) (fun B r τ E hl hr hm => ?_)
  subst hl
  refine zr_sub (lv' := [(0, .ref (zw_ad P k))]) [0] rfl ?_
  unfold m_X0_endedWorth at hm
  refine zr_iconst (v := 0) E dX0_endedWorth_0 (by decide) ?_
  refine zr_istore_n (lv' := [(1, .int 0), (0, .ref (zw_ad P k))]) E dX0_endedWorth_1 (by decide) rfl ?_
  refine zr_iconst (v := 0) E dX0_endedWorth_2 (by decide) ?_
  refine zr_istore_n (lv' := [(2, .int 0), (1, .int 0), (0, .ref (zw_ad P k))]) E dX0_endedWorth_3 (by decide) rfl ?_
  refine zr_sub (lv' := [(0, .ref (zw_ad P k)), (1, .int 0), (2, .int 0)]) [2, 1, 0] rfl ?_
  exact t_X0_endedWorth_4 k hk E hr 200 σ 0 0 hm
-- X0_goneOfAll
set_option maxRecDepth 100000 in
set_option maxHeartbeats 4000000 in
theorem t_X0_goneOfAll_4 {B : zw_B} {P : zw_P} {r : Int32} {τ : zw_S} (k : Nat) (hk : zw_bk k = true) (E : zf B P cX0_goneOfAll RX0 3 0) (hr : B.2.2.2.2.2.2.2.2.1.sig.returnType = some .int) : ∀ (n : Nat) (σ : zw_S) (x1 : Int32) (x2 : Int32), m_X0_goneOfAll_4 k n σ x1 x2 = some (r, τ) → zw_G B P (zq_i B P r τ) 3 σ 4 [(0, .ref (zw_ad P k)), (1, .int x1), (2, .int x2)] [] := by
  intro n
  induction n with
  | zero => intro σ x1 x2 hm; cases hm
  | succ n ih =>
    intro σ x1 x2 hm
    unfold m_X0_goneOfAll_4 at hm
    refine zr_iload_n E dX0_goneOfAll_4 2 rfl ?_
    refine zr_bipush (v := 8) E dX0_goneOfAll_5 (by decide) ?_
    refine zr_icmp_ge (tgt := 25) E dX0_goneOfAll_7 (by decide) (fun c1 => ?_) (fun c1 => ?_)
    · rw [if_pos c1] at hm
      refine zr_iload_n E dX0_goneOfAll_25 1 rfl ?_
      exact zr_iret E hr rfl hm dX0_goneOfAll_26
    · rw [if_neg c1] at hm
      refine zr_iload_n E dX0_goneOfAll_10 1 rfl ?_
      refine zr_aload_n E dX0_goneOfAll_11 0 rfl ?_
      refine fg_X0_19 hk E dX0_goneOfAll_12 ?_
      refine zr_iload_n E dX0_goneOfAll_15 2 rfl ?_
      obtain ⟨hv2, v2, ev2, hm⟩ := rd_some hm
      refine zr_iald E (ab_2 hk) hv2 ev2 dX0_goneOfAll_16 ?_
      refine zr_iadd E dX0_goneOfAll_17 ?_
      obtain ⟨v3, ev3, hm⟩ := nm_some hm
      refine zr_top ev3 ?_
      refine zr_istore_n (lv' := [(1, .int v3), (0, .ref (zw_ad P k)), (2, .int x2)]) E dX0_goneOfAll_18 (by decide) rfl ?_
      obtain ⟨v4, ev4, hm⟩ := nm_some hm
      refine zr_iinc (j := 2) (lv' := [(2, .int v4), (1, .int v3), (0, .ref (zw_ad P k))]) E dX0_goneOfAll_19 rfl ev4 (by decide) rfl ?_
      refine zr_goto (tgt := 4) E dX0_goneOfAll_22 (by decide) ?_
      refine zr_sub (lv' := [(0, .ref (zw_ad P k)), (1, .int v3), (2, .int v4)]) [2, 1, 0] rfl ?_
      exact ih σ v3 v4 hm
set_option maxRecDepth 100000 in
set_option maxHeartbeats 4000000 in
theorem c_X0_goneOfAll (l : Launch) (P : zw_P) (k : Nat) (hk : zw_bk k = true) (σ : zw_S) : zc_i l P yX0_goneOfAll cX0_goneOfAll 3 .int 0 [.ref (zw_ad P k)] σ (m_X0_goneOfAll k σ) := by
  refine zc_i.of (by decide) (Nat.le_of_ble_eq_true rfl) (fun B r τ E hl hr hm => ?_)
  subst hl
  refine zr_sub (lv' := [(0, .ref (zw_ad P k))]) [0] rfl ?_
  unfold m_X0_goneOfAll at hm
  refine zr_iconst (v := 0) E dX0_goneOfAll_0 (by decide) ?_
  refine zr_istore_n (lv' := [(1, .int 0), (0, .ref (zw_ad P k))]) E dX0_goneOfAll_1 (by decide) rfl ?_
  refine zr_iconst (v := 0) E dX0_goneOfAll_2 (by decide) ?_
  refine zr_istore_n (lv' := [(2, .int 0), (1, .int 0), (0, .ref (zw_ad P k))]) E dX0_goneOfAll_3 (by decide) rfl ?_
  refine zr_sub (lv' := [(0, .ref (zw_ad P k)), (1, .int 0), (2, .int 0)]) [2, 1, 0] rfl ?_
  exact t_X0_goneOfAll_4 k hk E hr 200 σ 0 0 hm
-- X2_isKind
set_option maxRecDepth 100000 in
set_option maxHeartbeats 4000000 in
theorem c_X2_isKind (l : Launch) (P : zw_P) (σ : zw_S) (x0 : Int32) : zc_i l P yX2_isKind cX2_isKind 1 .boolean 0 [.int x0] σ (m_X2_isKind σ x0) := by
  refine zc_i.of (by decide) (Nat.le_of_ble_eq_true rfl) (fun B r τ E hl hr hm => ?_)
  subst hl
  refine zr_sub (lv' := [(0, .int x0)]) [0] rfl ?_
  unfold m_X2_isKind at hm
  refine zr_iload_n E dX2_isKind_0 0 rfl ?_
  refine zr_if_lt (tgt := 16) E dX2_isKind_1 (by decide) (fun c1 => ?_) (fun c1 => ?_)
  · rw [if_pos c1] at hm
    refine zr_iconst (v := 0) E dX2_isKind_16 (by decide) ?_
    exact zr_iret E hr (by decide) hm dX2_isKind_17
  · rw [if_neg c1] at hm
    refine zr_iload_n E dX2_isKind_4 0 rfl ?_
    refine zr_abv E mw_141 dX2_isKind_5 ?_
    refine zr_abvlen E dX2_isKind_8 ?_
    refine zr_icmp_ge (tgt := 16) E dX2_isKind_9 (by decide) (fun c2 => ?_) (fun c2 => ?_)
    · rw [if_pos c2] at hm
      refine zr_iconst (v := 0) E dX2_isKind_16 (by decide) ?_
      exact zr_iret E hr (by decide) hm dX2_isKind_17
    · rw [if_neg c2] at hm
      refine zr_iconst (v := 1) E dX2_isKind_12 (by decide) ?_
      refine zr_goto (tgt := 17) E dX2_isKind_13 (by decide) ?_
      exact zr_iret E hr (by decide) hm dX2_isKind_17
-- X3_isMissing
set_option maxRecDepth 100000 in
set_option maxHeartbeats 4000000 in
theorem c_X3_isMissing (l : Launch) (P : zw_P) (k : Nat) (hk : zw_sh k = true) (σ : zw_S) : zc_i l P yX3_isMissing cX3_isMissing 1 .boolean 0 [.ref (zw_ad P k)] σ (m_X3_isMissing k σ) := by
  refine zc_i.of (by decide) (Nat.le_of_ble_eq_true rfl) (fun B r τ E hl hr hm => ?_)
  subst hl
  refine zr_sub (lv' := [(0, .ref (zw_ad P k))]) [0] rfl ?_
  unfold m_X3_isMissing at hm
  refine zr_aload_n E dX3_isMissing_0 0 rfl ?_
  refine fg_X3_13 hk E dX3_isMissing_1 ?_
  refine zr_if_ne (tgt := 11) E dX3_isMissing_4 (by decide) (fun c1 => ?_) (fun c1 => ?_)
  · rw [if_neg c1] at hm
    refine zr_iconst (v := 0) E dX3_isMissing_11 (by decide) ?_
    exact zr_iret E hr (by decide) hm dX3_isMissing_12
  · rw [if_pos c1] at hm
    refine zr_iconst (v := 1) E dX3_isMissing_7 (by decide) ?_
    refine zr_goto (tgt := 12) E dX3_isMissing_8 (by decide) ?_
    exact zr_iret E hr (by decide) hm dX3_isMissing_12
-- X3_become
set_option maxRecDepth 100000 in
set_option maxHeartbeats 4000000 in
theorem c_X3_become (l : Launch) (P : zw_P) (k : Nat) (hk : zw_sh k = true) (σ : zw_S) (x1 : Int32) (x2 : Int32) : zc_i l P yX3_become cX3_become 3 .int 1 [.ref (zw_ad P k), .int x1, .int x2] σ (m_X3_become k σ x1 x2) := by
  refine zc_i.of (by decide) (Nat.le_of_ble_eq_true rfl) (fun B r τ E hl hr hm => ?_)
  subst hl
  refine zr_sub (lv' := [(0, .ref (zw_ad P k)), (1, .int x1), (2, .int x2)]) [0, 1, 2] rfl ?_
  unfold m_X3_become at hm
  refine zr_aload_n E dX3_become_0 0 rfl ?_
  refine zr_iload_n E dX3_become_1 1 rfl ?_
  obtain ⟨s1, es1, hm⟩ := nm_some hm
  refine fp_X3_13 hk E es1 dX3_become_2 ?_
  refine zr_aload_n E dX3_become_5 0 rfl ?_
  refine zr_iload_n E dX3_become_6 1 rfl ?_
  refine zr_if_ne (tgt := 14) E dX3_become_7 (by decide) (fun c2 => ?_) (fun c2 => ?_)
  · rw [if_neg c2] at hm
    refine zr_iload_n E dX3_become_14 2 rfl ?_
    obtain ⟨s3, es3, hm⟩ := nm_some hm
    refine fp_X3_17 hk E es3 dX3_become_15 ?_
    refine zr_aload_n E dX3_become_18 0 rfl ?_
    refine fg_X3_9 hk E dX3_become_19 ?_
    refine zr_iconst (v := 0) E dX3_become_22 (by decide) ?_
    obtain ⟨s4, os4, hm⟩ := cv_some hm
    refine zr_cSv (st := []) E mw_1036 cm_J7_fill_53178 (c_J7_fill_53178 B.2.1 P (k + 1) 40 (zw_sh_ar hk) s3 0) os4 ⟨by decide, by decide⟩ rfl rfl (Nat.le_of_ble_eq_true rfl) dX3_become_23 ?_
    refine zr_aload_n E dX3_become_26 0 rfl ?_
    refine fg_X3_17 hk E dX3_become_27 ?_
    exact zr_iret E hr rfl hm dX3_become_30
  · rw [if_pos c2] at hm
    refine zr_iconst (v := 0) E dX3_become_10 (by decide) ?_
    refine zr_goto (tgt := 15) E dX3_become_11 (by decide) ?_
    obtain ⟨s5, es5, hm⟩ := nm_some hm
    refine fp_X3_17 hk E es5 dX3_become_15 ?_
    refine zr_aload_n E dX3_become_18 0 rfl ?_
    refine fg_X3_9 hk E dX3_become_19 ?_
    refine zr_iconst (v := 0) E dX3_become_22 (by decide) ?_
    obtain ⟨s6, os6, hm⟩ := cv_some hm
    refine zr_cSv (st := []) E mw_1036 cm_J7_fill_53178 (c_J7_fill_53178 B.2.1 P (k + 1) 40 (zw_sh_ar hk) s5 0) os6 ⟨by decide, by decide⟩ rfl rfl (Nat.le_of_ble_eq_true rfl) dX3_become_23 ?_
    refine zr_aload_n E dX3_become_26 0 rfl ?_
    refine fg_X3_17 hk E dX3_become_27 ?_
    exact zr_iret E hr rfl hm dX3_become_30
-- X3_hasRange
set_option maxRecDepth 100000 in
set_option maxHeartbeats 4000000 in
theorem c_X3_hasRange (l : Launch) (P : zw_P) (k : Nat) (hk : zw_sh k = true) (σ : zw_S) (x1 : Int32) (x2 : Int32) : zc_i l P yX3_hasRange cX3_hasRange 3 .boolean 0 [.ref (zw_ad P k), .int x1, .int x2] σ (m_X3_hasRange k σ x1 x2) := by
  refine zc_i.of (by decide) (Nat.le_of_ble_eq_true rfl) (fun B r τ E hl hr hm => ?_)
  subst hl
  refine zr_sub (lv' := [(0, .ref (zw_ad P k)), (1, .int x1), (2, .int x2)]) [0, 1, 2] rfl ?_
  unfold m_X3_hasRange at hm
  refine zr_iload_n E dX3_hasRange_0 1 rfl ?_
  refine zr_if_lt (tgt := 30) E dX3_hasRange_1 (by decide) (fun c1 => ?_) (fun c1 => ?_)
  · rw [if_pos c1] at hm
    refine zr_iconst (v := 0) E dX3_hasRange_30 (by decide) ?_
    exact zr_iret E hr (by decide) hm dX3_hasRange_31
  · rw [if_neg c1] at hm
    refine zr_iload_n E dX3_hasRange_4 2 rfl ?_
    refine zr_if_lt (tgt := 30) E dX3_hasRange_5 (by decide) (fun c2 => ?_) (fun c2 => ?_)
    · rw [if_pos c2] at hm
      refine zr_iconst (v := 0) E dX3_hasRange_30 (by decide) ?_
      exact zr_iret E hr (by decide) hm dX3_hasRange_31
    · rw [if_neg c2] at hm
      refine zr_iload_n E dX3_hasRange_8 2 rfl ?_
      refine zr_aload_n E dX3_hasRange_9 0 rfl ?_
      refine fg_X3_17 hk E dX3_hasRange_10 ?_
      refine zr_icmp_gt (tgt := 30) E dX3_hasRange_13 (by decide) (fun c3 => ?_) (fun c3 => ?_)
      · rw [if_pos c3] at hm
        refine zr_iconst (v := 0) E dX3_hasRange_30 (by decide) ?_
        exact zr_iret E hr (by decide) hm dX3_hasRange_31
      · rw [if_neg c3] at hm
        refine zr_iload_n E dX3_hasRange_16 1 rfl ?_
        refine zr_aload_n E dX3_hasRange_17 0 rfl ?_
        refine fg_X3_17 hk E dX3_hasRange_18 ?_
        refine zr_iload_n E dX3_hasRange_21 2 rfl ?_
        refine zr_isub E dX3_hasRange_22 ?_
        refine zr_icmp_gt (tgt := 30) E dX3_hasRange_23 (by decide) (fun c4 => ?_) (fun c4 => ?_)
        · rw [if_pos c4] at hm
          refine zr_iconst (v := 0) E dX3_hasRange_30 (by decide) ?_
          exact zr_iret E hr (by decide) hm dX3_hasRange_31
        · rw [if_neg c4] at hm
          refine zr_iconst (v := 1) E dX3_hasRange_26 (by decide) ?_
          refine zr_goto (tgt := 31) E dX3_hasRange_27 (by decide) ?_
          exact zr_iret E hr (by decide) hm dX3_hasRange_31
-- X3_put
set_option maxRecDepth 100000 in
set_option maxHeartbeats 4000000 in
theorem c_X3_put (l : Launch) (P : zw_P) (k : Nat) (hk : zw_sh k = true) (σ : zw_S) (x1 : Int32) (x2 : Int32) : zc_v l P yX3_put cX3_put 3 0 [.ref (zw_ad P k), .int x1, .int x2] σ (m_X3_put k σ x1 x2) := by
  refine zc_v.of (by decide) (Nat.le_of_ble_eq_true rfl) (fun B τ E hl hr hm => ?_)
  subst hl
  refine zr_sub (lv' := [(0, .ref (zw_ad P k)), (1, .int x1), (2, .int x2)]) [0, 1, 2] rfl ?_
  unfold m_X3_put at hm
  refine zr_aload_n E dX3_put_0 0 rfl ?_
  refine fg_X3_13 hk E dX3_put_1 ?_
  refine zr_bipush (v := 8) E dX3_put_4 (by decide) ?_
  refine zr_icmp_ne (tgt := 20) E dX3_put_6 (by decide) (fun c1 => ?_) (fun c1 => ?_)
  · rw [if_neg c1] at hm
    refine zr_aload_n E dX3_put_20 0 rfl ?_
    refine fg_X3_13 hk E dX3_put_21 ?_
    refine zr_bipush (v := 16) E dX3_put_24 (by decide) ?_
    refine zr_icmp_ne (tgt := 40) E dX3_put_26 (by decide) (fun c2 => ?_) (fun c2 => ?_)
    · rw [if_neg c2] at hm
      refine zr_aload_n E dX3_put_40 0 rfl ?_
      refine fg_X3_9 hk E dX3_put_41 ?_
      refine zr_iload_n E dX3_put_44 1 rfl ?_
      refine zr_iload_n E dX3_put_45 2 rfl ?_
      obtain ⟨hs3, s3, es3, hm⟩ := wt_some hm
      refine zr_iast E (zw_sh_ar hk) hs3 es3 dX3_put_46 ?_
      exact zr_vret E hr hm dX3_put_47
    · rw [if_pos c2] at hm
      refine zr_aload_n E dX3_put_29 0 rfl ?_
      refine fg_X3_9 hk E dX3_put_30 ?_
      refine zr_iload_n E dX3_put_33 1 rfl ?_
      refine zr_iload_n E dX3_put_34 2 rfl ?_
      refine zr_i2s E dX3_put_35 ?_
      obtain ⟨hs4, s4, es4, hm⟩ := wt_some hm
      refine zr_iast E (zw_sh_ar hk) hs4 es4 dX3_put_36 ?_
      refine zr_goto (tgt := 47) E dX3_put_37 (by decide) ?_
      exact zr_vret E hr hm dX3_put_47
  · rw [if_pos c1] at hm
    refine zr_aload_n E dX3_put_9 0 rfl ?_
    refine fg_X3_9 hk E dX3_put_10 ?_
    refine zr_iload_n E dX3_put_13 1 rfl ?_
    refine zr_iload_n E dX3_put_14 2 rfl ?_
    refine zr_i2b E dX3_put_15 ?_
    obtain ⟨hs5, s5, es5, hm⟩ := wt_some hm
    refine zr_iast E (zw_sh_ar hk) hs5 es5 dX3_put_16 ?_
    refine zr_goto (tgt := 47) E dX3_put_17 (by decide) ?_
    exact zr_vret E hr hm dX3_put_47
