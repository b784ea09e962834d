/-! String.length and String.charAt of the constant texts -/
section ZS
variable {B : zw_B} {P : zw_P} {Q : State → Prop} {nL h pc : Nat} {σ : zw_S} {lv : List (Nat × Value)} {st : List Value} {cc : ByteArray} {own : String}
theorem zr_scoder {w : Nat} (E : zf B P cc RJ0 nL h) (hw : w < 15) (hd : decode cc pc = .ok (.getfield 15, 3)) (kk : zw_G B P Q nL σ (pc + 3) lv (.int 0 :: st)) : zw_G B P Q nL σ pc lv (.ref (zw_aK P w) :: st) := by
  obtain ⟨p, l, e, R, s, m, args, below, meth, c⟩ := B
  intro H locs ls hP hS hl
  exact vk_getf E.1 E.2.1 (E.2.2.2.2.2.1.2.2.2.2.1 w hw).2.1 hS E.2.2.2.1 (E.2.2.2.2.1 _ ms_f15) (fun _ q => q) hd (kk H locs ls hP hS hl)
theorem zr_svalue {w : Nat} (E : zf B P cc RJ0 nL h) (hw : w < 15) (hd : decode cc pc = .ok (.getfield 9, 3)) (kk : zw_G B P Q nL σ (pc + 3) lv (.ref (zw_aV P w) :: st)) : zw_G B P Q nL σ pc lv (.ref (zw_aK P w) :: st) := by
  obtain ⟨p, l, e, R, s, m, args, below, meth, c⟩ := B
  intro H locs ls hP hS hl
  exact vk_getf E.1 E.2.1 (E.2.2.2.2.2.1.2.2.2.2.1 w hw).2.2.1 hS E.2.2.2.1 (E.2.2.2.2.1 _ ms_f9) (fun _ q => q) hd (kk H locs ls hP hS hl)
theorem zr_sblen {w : Nat} (E : zf B P cc own nL h) (hw : w < 15) (hd : decode cc pc = .ok (.arraylength, 1)) (kk : zw_G B P Q nL σ (pc + 1) lv (.int (zsl w) :: st)) : zw_G B P Q nL σ pc lv (.ref (zw_aV P w) :: st) := by
  obtain ⟨p, l, e, R, s, m, args, below, meth, c⟩ := B
  intro H locs ls hP hS hl
  exact va_tlen E.1 E.2.1 (E.2.2.2.2.2.1.2.2.2.2.1 w hw).2.2.2 hS rfl hd (kk H locs ls hP hS hl)
theorem zr_sbld {w : Nat} {i : Int32} (E : zf B P cc own nL h) (hw : w < 15) (hi : vp_in i (zw_len.getD w 0)) (hd : decode cc pc = .ok (.baload, 1)) (kk : zw_G B P Q nL σ (pc + 1) lv (.int ((zw_byt.getD w []).getD i.toNatClampNeg 0) :: st)) : zw_G B P Q nL σ pc lv (.int i :: .ref (zw_aV P w) :: st) := by
  obtain ⟨p, l, e, R, s, m, args, below, meth, c⟩ := B
  intro H locs ls hP hS hl
  exact va_tb E.1 E.2.1 (E.2.2.2.2.2.1.2.2.2.2.1 w hw).2.2.2 hS hi rfl hd (kk H locs ls hP hS hl)
theorem zr_compact (E : zf B P cc RJ0 nL h) (hd : decode cc pc = .ok (.getstatic 38, 3)) (kk : zw_G B P Q nL σ (pc + 3) lv (.int 1 :: st)) : zw_G B P Q nL σ pc lv st := by
  obtain ⟨p, l, e, R, s, m, args, below, meth, c⟩ := B
  intro H locs ls hP hS hl
  exact va_gets E.1 E.2.1 E.2.2.2.2.2.1.2.2.2.2.2.1 hS E.2.2.2.1 (E.2.2.2.2.1 _ ms_f38) (fun _ q => q) hd (kk H locs ls hP hS hl)
theorem zr_fmt (E : zf B P cc RJ0 nL h) (hd : decode cc pc = .ok (.getstatic 1053, 3)) (kk : ∀ v : Value, (v = .null ∨ ∃ t, v = .ref t) → zw_G B P Q nL σ (pc + 3) lv (v :: st)) : zw_G B P Q nL σ pc lv st := by
  obtain ⟨p, l, e, R, s, m, args, below, meth, c⟩ := B
  intro H locs ls hP hS hl
  rcases E.2.2.2.2.2.1.2.2.2.2.2.2.2.2 with hZ | ⟨t, hZ⟩
  · exact va_gets E.1 E.2.1 hZ hS E.2.2.2.1 (E.2.2.2.2.1 _ ms_f1053) (fun _ q => q) hd (kk _ (Or.inl rfl) H locs ls hP hS hl)
  · exact va_gets E.1 E.2.1 hZ hS E.2.2.2.1 (E.2.2.2.2.1 _ ms_f1053) (fun _ q => q) hd (kk _ (Or.inr ⟨t, rfl⟩) H locs ls hP hS hl)
theorem zr_i2c {x v : Int32} (E : zf B P cc own nL h) (hv : (x.toUInt32 % 65536).toInt32 = v) (hd : decode cc pc = .ok (.i2c, 1)) (kk : zw_G B P Q nL σ (pc + 1) lv (.int v :: st)) : zw_G B P Q nL σ pc lv (.int x :: st) := by
  obtain ⟨p, l, e, R, s, m, args, below, meth, c⟩ := B
  intro H locs ls hP hS hl
  exact lv_i2c E.1 E.2.1 hd hv (kk H locs ls hP hS hl)
end ZS
theorem c_J3_checkIndex (l : Launch) (P : zw_P) (v : Value) (hv : v = .null ∨ ∃ t, v = .ref t) (σ : zw_S) (i n : Int32) (h1 : ¬ i < 0) (h2 : i < n) : zc_i l P yJ3_checkIndex_8e157 cJ3_checkIndex_8e157 3 .int 0 [.int i, .int n, v] σ (some (i, σ)) := by
  have key : ∀ v2 : Value, (lg_sl [.int i, .int n, v2]).length ≤ 3 → zc_i l P yJ3_checkIndex_8e157 cJ3_checkIndex_8e157 3 .int 0 [.int i, .int n, v2] σ (some (i, σ)) := by
    intro v2 hc
    refine zc_i.of (by decide) hc (fun B r τ E hl hr hm => ?_)
    refine zr_sub (lv' := [(0, .int i), (1, .int n)]) [0, 1] rfl ?_
    refine zr_iload_n E dJ3_checkIndex_8e157_0 0 rfl ?_
    refine zr_if_lt (tgt := 9) E dJ3_checkIndex_8e157_1 (by decide) (fun c1 => absurd c1 h1) (fun _ => ?_)
    refine zr_iload_n E dJ3_checkIndex_8e157_4 0 rfl ?_
    refine zr_iload_n E dJ3_checkIndex_8e157_5 1 rfl ?_
    refine zr_icmp_lt (tgt := 16) E dJ3_checkIndex_8e157_6 (by decide) (fun _ => ?_) (fun c1 => absurd h2 c1)
    refine zr_iload_n E dJ3_checkIndex_8e157_16 0 rfl ?_
    exact zr_iret E hr rfl hm dJ3_checkIndex_8e157_17
  rcases hv with rfl | ⟨t, rfl⟩
  · exact key _ (Nat.le_of_ble_eq_true rfl)
  · exact key _ (Nat.le_of_ble_eq_true rfl)
theorem c_J0_checkIndex (l : Launch) (P : zw_P) (σ : zw_S) (i n : Int32) (h1 : ¬ i < 0) (h2 : i < n) : zc_v l P yJ0_checkIndex_df160 cJ0_checkIndex_df160 2 1 [.int i, .int n] σ (some σ) := by
  refine zc_v.of (by decide) (Nat.le_of_ble_eq_true rfl) (fun B τ E hl hr hm => ?_)
  refine zr_sub (lv' := [(0, .int i), (1, .int n)]) [0, 1] rfl ?_
  refine zr_iload_n E dJ0_checkIndex_df160_0 0 rfl ?_
  refine zr_iload_n E dJ0_checkIndex_df160_1 1 rfl ?_
  refine zr_fmt E dJ0_checkIndex_df160_2 (fun v hv => ?_)
  have hc := c_J3_checkIndex B.2.1 P v hv σ i n h1 h2
  refine zr_cSi (st := []) E ms_m1059 cm_J3_checkIndex_8e157 hc rfl ⟨by decide, by decide⟩ rfl rfl (Nat.le_of_ble_eq_true rfl) dJ0_checkIndex_df160_5 ?_
  refine zr_pop E dJ0_checkIndex_df160_8 rfl ?_
  exact zr_vret E hr hm dJ0_checkIndex_df160_9
theorem zs_lt {w : Nat} {i : Int32} (hw : w < 15) (h : vp_in i (zw_len.getD w 0)) : ¬ i < 0 ∧ i < zsl w := by
  have hl : ∀ w : Nat, w < 15 → zw_len.getD w 0 < 1000 := by decide
  have h1 := hl w hw
  obtain ⟨j, hj, rfl⟩ := vp_in_of h (by omega)
  exact ⟨nI_pos (by omega), nI_lt hj (by omega)⟩
theorem c_J1_charAt (l : Launch) (P : zw_P) (w : Nat) (hw : w < 15) (σ : zw_S) (i : Int32) (hi : vp_in i (zw_len.getD w 0)) : zc_i l P yJ1_charAt_3b067 cJ1_charAt_3b067 2 .char 2 [.ref (zw_aV P w), .int i] σ (some (zsc w i, σ)) := by
  refine zc_i.of (by decide) (Nat.le_of_ble_eq_true rfl) (fun B r τ E hl hr hm => ?_)
  refine zr_sub (lv' := [(0, .ref (zw_aV P w)), (1, .int i)]) [0, 1] rfl ?_
  refine zr_iload_n E dJ1_charAt_3b067_0 1 rfl ?_
  refine zr_aload_n E dJ1_charAt_3b067_1 0 rfl ?_
  refine zr_sblen E hw dJ1_charAt_3b067_2 ?_
  refine zr_cSv (st := []) E ms_m9 cm_J0_checkIndex_df160 (c_J0_checkIndex B.2.1 P σ i (zsl w) (zs_lt hw hi).1 (zs_lt hw hi).2) rfl ⟨by decide, by decide⟩ rfl rfl (Nat.le_of_ble_eq_true rfl) dJ1_charAt_3b067_3 ?_
  refine zr_aload_n E dJ1_charAt_3b067_6 0 rfl ?_
  refine zr_iload_n E dJ1_charAt_3b067_7 1 rfl ?_
  refine zr_sbld E hw hi dJ1_charAt_3b067_8 ?_
  refine zr_sipush (v := 255) E dJ1_charAt_3b067_9 (by decide) ?_
  refine zr_iand E dJ1_charAt_3b067_12 ?_
  refine zr_i2c E (sc_c2 _) dJ1_charAt_3b067_13 ?_
  exact zr_iret E hr (sc_nar _) hm dJ1_charAt_3b067_14
theorem c_J0_coder (l : Launch) (P : zw_P) (w : Nat) (hw : w < 15) (σ : zw_S) : zc_i l P yJ0_coder_7d493 cJ0_coder_7d493 1 .byte 0 [.ref (zw_aK P w)] σ (some (0, σ)) := by
  refine zc_i.of (by decide) (Nat.le_of_ble_eq_true rfl) (fun B r τ E hl hr hm => ?_)
  refine zr_sub (lv' := [(0, .ref (zw_aK P w))]) [0] rfl ?_
  refine zr_compact E dJ0_coder_7d493_0 ?_
  refine zr_if_eq (tgt := 13) E dJ0_coder_7d493_3 (by decide) (fun c => absurd c (by decide)) (fun _ => ?_)
  refine zr_aload_n E dJ0_coder_7d493_6 0 rfl ?_
  refine zr_scoder E hw dJ0_coder_7d493_7 ?_
  refine zr_goto (tgt := 14) E dJ0_coder_7d493_10 (by decide) ?_
  exact zr_iret E hr (by decide) hm dJ0_coder_7d493_14
theorem c_J0_isLatin1 (l : Launch) (P : zw_P) (w : Nat) (hw : w < 15) (σ : zw_S) : zc_i l P yJ0_isLatin1_aae02 cJ0_isLatin1_aae02 1 .boolean 0 [.ref (zw_aK P w)] σ (some (1, σ)) := by
  refine zc_i.of (by decide) (Nat.le_of_ble_eq_true rfl) (fun B r τ E hl hr hm => ?_)
  refine zr_sub (lv' := [(0, .ref (zw_aK P w))]) [0] rfl ?_
  refine zr_compact E dJ0_isLatin1_aae02_0 ?_
  refine zr_if_eq (tgt := 17) E dJ0_isLatin1_aae02_3 (by decide) (fun c => absurd c (by decide)) (fun _ => ?_)
  refine zr_aload_n E dJ0_isLatin1_aae02_6 0 rfl ?_
  refine zr_scoder E hw dJ0_isLatin1_aae02_7 ?_
  refine zr_if_ne (tgt := 17) E dJ0_isLatin1_aae02_10 (by decide) (fun c => absurd rfl c) (fun _ => ?_)
  refine zr_iconst (v := 1) E dJ0_isLatin1_aae02_13 (by decide) ?_
  refine zr_goto (tgt := 18) E dJ0_isLatin1_aae02_14 (by decide) ?_
  exact zr_iret E hr (by decide) hm dJ0_isLatin1_aae02_18
theorem c_J0_length (l : Launch) (P : zw_P) (w : Nat) (hw : w < 15) (σ : zw_S) : zc_i l P yJ0_length_8abf5 cJ0_length_8abf5 1 .int 1 [.ref (zw_aK P w)] σ (some (zsl w, σ)) := by
  refine zc_i.of (by decide) (Nat.le_of_ble_eq_true rfl) (fun B r τ E hl hr hm => ?_)
  refine zr_sub (lv' := [(0, .ref (zw_aK P w))]) [0] rfl ?_
  refine zr_aload_n E dJ0_length_8abf5_0 0 rfl ?_
  refine zr_svalue E hw dJ0_length_8abf5_1 ?_
  refine zr_sblen E hw dJ0_length_8abf5_4 ?_
  refine zr_aload_n E dJ0_length_8abf5_5 0 rfl ?_
  refine zr_cTi (st := [.int (zsl w)]) E ms_m335 cm_J0_coder_7d493 (c_J0_coder B.2.1 P w hw σ) rfl ⟨hw, rfl⟩ ⟨by decide, by decide⟩ rfl rfl (Nat.le_of_ble_eq_true rfl) dJ0_length_8abf5_6 ?_
  refine zr_ishr E dJ0_length_8abf5_9 ?_
  refine zr_top (sb_shr0 (zsl w)).symm ?_
  exact zr_iret E hr rfl hm dJ0_length_8abf5_10
theorem c_J0_charAt (l : Launch) (P : zw_P) (w : Nat) (hw : w < 15) (σ : zw_S) (i : Int32) (hi : vp_in i (zw_len.getD w 0)) : zc_i l P yJ0_charAt_5068e cJ0_charAt_5068e 2 .char 3 [.ref (zw_aK P w), .int i] σ (some (zsc w i, σ)) := by
  refine zc_i.of (by decide) (Nat.le_of_ble_eq_true rfl) (fun B r τ E hl hr hm => ?_)
  refine zr_sub (lv' := [(0, .ref (zw_aK P w)), (1, .int i)]) [0, 1] rfl ?_
  refine zr_aload_n E dJ0_charAt_5068e_0 0 rfl ?_
  refine zr_cTi (st := []) E ms_m492 cm_J0_isLatin1_aae02 (c_J0_isLatin1 B.2.1 P w hw σ) rfl ⟨hw, rfl⟩ ⟨by decide, by decide⟩ rfl rfl (Nat.le_of_ble_eq_true rfl) dJ0_charAt_5068e_1 ?_
  refine zr_if_eq (tgt := 16) E dJ0_charAt_5068e_4 (by decide) (fun c => absurd c (by decide)) (fun _ => ?_)
  refine zr_aload_n E dJ0_charAt_5068e_7 0 rfl ?_
  refine zr_svalue E hw dJ0_charAt_5068e_8 ?_
  refine zr_iload_n E dJ0_charAt_5068e_11 1 rfl ?_
  refine zr_cSi (st := []) E ms_m495 cm_J1_charAt_3b067 (c_J1_charAt B.2.1 P w hw σ i hi) rfl ⟨by decide, by decide⟩ rfl rfl (Nat.le_of_ble_eq_true rfl) dJ0_charAt_5068e_12 ?_
  exact zr_iret E hr (sc_nar _) hm dJ0_charAt_5068e_15
section ZT
variable {B : zw_B} {P : zw_P} {Q : State → Prop} {nL h pc : Nat} {σ : zw_S} {lv : List (Nat × Value)} {st : List Value} {cc : ByteArray} {own : String}
theorem zr_slen {w i : Nat} (h3 : 3 ≤ h) (E : zf B P cc own nL (h + 1)) (hw : w < 15) (hl : Cond.methodLink own i yJ0_length_8abf5 ∈ wsL_law) (hs : (st.map fun v => v.category).sum ≤ 8) (hd : decode cc pc = .ok (.invokevirtual i, 3)) (kk : zw_G B P Q nL σ (pc + 3) lv (.int (zsl w) :: st)) : zw_G B P Q nL σ pc lv (.ref (zw_aK P w) :: st) :=
  zr_cTi (st := st) E hl cm_J0_length_8abf5 (c_J0_length B.2.1 P w hw σ) rfl ⟨hw, rfl⟩ ⟨by omega, by omega⟩ rfl rfl hs hd kk
theorem zr_schar {w i : Nat} {x : Int32} (h3 : 3 ≤ h) (E : zf B P cc own nL (h + 1)) (hw : w < 15) (hl : Cond.methodLink own i yJ0_charAt_5068e ∈ wsL_law) (hi : vp_in x (zw_len.getD w 0)) (hs : (st.map fun v => v.category).sum ≤ 8) (hd : decode cc pc = .ok (.invokevirtual i, 3)) (kk : zw_G B P Q nL σ (pc + 3) lv (.int (zsc w x) :: st)) : zw_G B P Q nL σ pc lv (.int x :: .ref (zw_aK P w) :: st) :=
  zr_cTi (st := st) E hl cm_J0_charAt_5068e (c_J0_charAt B.2.1 P w hw σ x hi) rfl ⟨hw, rfl⟩ ⟨by omega, by omega⟩ rfl rfl hs hd kk
end ZT
