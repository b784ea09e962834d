/-- the calls of the class, by the law's numbers -/
def zl_opX (n : Nat) (σ : zw_S) (a1 a2 a3 a4 a5 : Int32) : Option (Int32 × zw_S) :=
  match n with
  | 0 => m_X6_worth σ a1 a2
  | 1 => m_X6_task σ a1 a2 a3
  | 2 => m_X6_taskOf σ a1 a2
  | 3 => m_X6_turn σ a1 a2
  | 4 => m_X6_needs σ a1 a2
  | 5 => m_X6_strike σ a1
  | 6 => m_X6_nameOf σ a1 a2
  | 7 => m_X6_rings σ
  | 8 => m_X6_waits σ a1
  | 9 => m_X6_person σ a1
  | 10 => m_X6_of σ a1 a2
  | 11 => m_X6_change σ a1 a2 a3
  | 12 => m_X6_helps σ a1 a2
  | 13 => m_X6_take σ a1 a2
  | 14 => m_X6_exchange σ a1 a2
  | 15 => m_X6_born σ a1
  | 16 => m_X6_years σ a1
  | 17 => m_X6_ahead σ a1 a2
  | 18 => m_X6_shut σ a1
  | 19 => m_X6_ends σ a1
  | 20 => m_X6_choose σ a1
  | 21 => m_X6_handsFor σ a1
  | 22 => m_X6_most σ a1
  | 23 => m_X6_give σ a1
  | 24 => m_X6_lives σ a1 a2
  | 25 => m_X6_best σ a1
  | 26 => m_X6_whom σ a1 a2
  | 27 => m_X6_seed σ a1
  | 28 => m_X6_feed σ a1 a2
  | 29 => m_X6_wipe σ
  | 30 => m_X6_text σ
  | 31 => m_X6_hold σ a1 a2
  | 32 => m_X6_as σ a1 a2
  | 33 => m_X6_sheet σ a1 a2 a3
  | 34 => m_X6_write σ a1 a2 a3
  | 35 => m_X6_copy σ a1 a2 a3 a4 a5
  | 36 => m_X6_load σ a1
  | 37 => m_X6_judge σ a1 a2
  | 38 => m_X6_image σ
  | 39 => m_X6_undo σ
  | 40 => m_X6_tear σ
  | 41 => m_X6_count σ a1
  | 42 => m_X6_status σ a1
  | _ => none
/-- the calls of the reference, by the law's numbers -/
def zl_opM (n : Nat) (σ : zw_S) (a1 a2 a3 a4 a5 : Int32) : Option (Int32 × zw_S) :=
  match n with
  | 0 => m_X7_worth σ a1 a2
  | 1 => m_X7_task σ a1 a2 a3
  | 2 => m_X7_taskOf σ a1 a2
  | 3 => m_X7_turn σ a1 a2
  | 4 => m_X7_needs σ a1 a2
  | 5 => m_X7_strike σ a1
  | 6 => m_X7_nameOf σ a1 a2
  | 7 => m_X7_rings σ
  | 8 => m_X7_waits σ a1
  | 9 => m_X7_person σ a1
  | 10 => m_X7_of σ a1 a2
  | 11 => m_X7_change σ a1 a2 a3
  | 12 => m_X7_helps σ a1 a2
  | 13 => m_X7_take σ a1 a2
  | 14 => m_X7_exchange σ a1 a2
  | 15 => m_X7_born σ a1
  | 16 => m_X7_years σ a1
  | 17 => m_X7_ahead σ a1 a2
  | 18 => m_X7_shut σ a1
  | 19 => m_X7_ends σ a1
  | 20 => m_X7_choose σ a1
  | 21 => m_X7_handsFor σ a1
  | 22 => m_X7_most σ a1
  | 23 => m_X7_give σ a1
  | 24 => m_X7_lives σ a1 a2
  | 25 => m_X7_best σ a1
  | 26 => m_X7_whom σ a1 a2
  | 27 => m_X7_seed σ a1
  | 28 => m_X7_feed σ a1 a2
  | 29 => m_X7_wipe σ
  | 30 => m_X7_text σ
  | 31 => m_X7_hold σ a1 a2
  | 32 => m_X7_as σ a1 a2
  | 33 => m_X7_sheet σ a1 a2 a3
  | 34 => m_X7_write σ a1 a2 a3
  | 35 => m_X7_copy σ a1 a2 a3 a4 a5
  | 36 => m_X7_load σ a1
  | 37 => m_X7_judge σ a1 a2
  | 38 => m_X7_image σ
  | 39 => m_X7_undo σ
  | 40 => m_X7_tear σ
  | 41 => m_X7_count σ a1
  | 42 => m_X7_status σ a1
  | _ => none
/-! the law's walk -/
def zl_G (B : zw_B) (P : zw_P) (σ : zw_S) (pc : Nat) (lv : List (Nat × Value)) (st : List Value) : Prop :=
  match B with
  | (p, l, e, R, s, m, args, below, meth, c) => ∀ (H : Heap) (locs : List Loc) (ls : Array Slot), va_P P.1 vwCl (zw_W P σ) H → va_S (zl_A s) s.heap H locs → lv_has ls 4 lv → W p l e R s m args below meth c H locs 69 1742 (lw_Z below args s) (F0 m pc ls st)
def zl_f (B : zw_B) (P : zw_P) (b L : Nat) (xs : Nat → Int32) : Prop :=
  match B with
  | (p, l, e, R, s, m, args, below, meth, c) => p.tables.exec = Jvm.exec ∧ c.code = cL_law ∧ meth.sig.returnType = ret ∧ c.maxLocals = 4 ∧ s.vm.findClass RL = some m.cls ∧ (∀ w ∈ wsL_law, w.before args s = true) ∧ zw_K P s ∧ R = room_1 ∧ meth.locks = false ∧ va_X b L xs s s.heap ∧ b < s.heap.size ∧ (∀ q, zw_A P q → s.heap.size ≤ q) ∧ args = #[Value.ref b]
section ZL
variable {B : zw_B} {P : zw_P} {b L pc : Nat} {xs : Nat → Int32} {σ : zw_S} {lv : List (Nat × Value)} {st : List Value}
theorem zl_iconst {n : Int} {v : Int32} (E : zl_f B P b L xs) (hd : decode cL_law pc = .ok (.iconst n, 1)) (hv : Int32.ofInt n = v) (kk : zl_G B P σ (pc + 1) lv (.int v :: st)) : zl_G B P σ pc lv (st) := by
  obtain ⟨p, l, e, R, s, m, args, below, meth, c⟩ := B
  intro H locs ls hP hS hl
  exact lv_iconst E.1 E.2.1 hd hv (kk H locs ls hP hS hl)
theorem zl_bipush {n : Int} {v : Int32} (E : zl_f B P b L xs) (hd : decode cL_law pc = .ok (.bipush n, 2)) (hv : (Int8.ofInt n).toInt32 = v) (kk : zl_G B P σ (pc + 2) lv (.int v :: st)) : zl_G B P σ pc lv (st) := by
  obtain ⟨p, l, e, R, s, m, args, below, meth, c⟩ := B
  intro H locs ls hP hS hl
  exact lv_bipush E.1 E.2.1 hd hv (kk H locs ls hP hS hl)
theorem zl_iload_n {k : Fin 4} {x : Int32} (E : zl_f B P b L xs) (hd : decode cL_law pc = .ok (.iload_n k, 1)) (j : Nat) (hj : lv[j]? = some ((k : Nat), .int x)) (kk : zl_G B P σ (pc + 1) lv (.int x :: st)) : zl_G B P σ pc lv (st) := by
  obtain ⟨p, l, e, R, s, m, args, below, meth, c⟩ := B
  intro H locs ls hP hS hl
  exact lv_iload_n E.1 E.2.1 hd rfl (lv_at hl j hj) (kk H locs ls hP hS hl)
theorem zl_aload_n {k : Fin 4} {x : Nat} (E : zl_f B P b L xs) (hd : decode cL_law pc = .ok (.aload_n k, 1)) (j : Nat) (hj : lv[j]? = some ((k : Nat), .ref x)) (kk : zl_G B P σ (pc + 1) lv (.ref x :: st)) : zl_G B P σ pc lv (st) := by
  obtain ⟨p, l, e, R, s, m, args, below, meth, c⟩ := B
  intro H locs ls hP hS hl
  exact lv_aload_n E.1 E.2.1 hd rfl (lv_at hl j hj) (kk H locs ls hP hS hl)
theorem zl_iadd {x y : Int32} (E : zl_f B P b L xs) (hd : decode cL_law pc = .ok (.iadd, 1)) (kk : zl_G B P σ (pc + 1) lv (.int (x + y) :: st)) : zl_G B P σ pc lv (.int y :: .int x :: st) := by
  obtain ⟨p, l, e, R, s, m, args, below, meth, c⟩ := B
  intro H locs ls hP hS hl
  exact lv_iadd E.1 E.2.1 hd (kk H locs ls hP hS hl)
theorem zl_isub {x y : Int32} (E : zl_f B P b L xs) (hd : decode cL_law pc = .ok (.isub, 1)) (kk : zl_G B P σ (pc + 1) lv (.int (x - y) :: st)) : zl_G B P σ pc lv (.int y :: .int x :: st) := by
  obtain ⟨p, l, e, R, s, m, args, below, meth, c⟩ := B
  intro H locs ls hP hS hl
  exact lv_isub E.1 E.2.1 hd (kk H locs ls hP hS hl)
theorem zl_iand {x y : Int32} (E : zl_f B P b L xs) (hd : decode cL_law pc = .ok (.iand, 1)) (kk : zl_G B P σ (pc + 1) lv (.int (x &&& y) :: st)) : zl_G B P σ pc lv (.int y :: .int x :: st) := by
  obtain ⟨p, l, e, R, s, m, args, below, meth, c⟩ := B
  intro H locs ls hP hS hl
  exact lv_iand E.1 E.2.1 hd (kk H locs ls hP hS hl)
theorem zl_slen (E : zl_f B P b L xs) (hd : decode cL_law pc = .ok (.arraylength, 1)) (kk : zl_G B P σ (pc + 1) lv (.int (nI L) :: st)) : zl_G B P σ pc lv (.ref b :: st) := by
  obtain ⟨p, l, e, R, s, m, args, below, meth, c⟩ := B
  intro H locs ls hP hS hl
  exact va_slen E.1 E.2.1 E.2.2.2.2.2.2.2.2.2.1 E.2.2.2.2.2.2.2.2.2.2.1 (Nat.not_le.mpr E.2.2.2.2.2.2.2.2.2.2.1) hS hd (kk H locs ls hP hS hl)
theorem zl_sld {i v : Int32} (E : zl_f B P b L xs) (hi : vp_in i L) (ev : v = xs i.toNatClampNeg) (hd : decode cL_law pc = .ok (.iaload, 1)) (kk : zl_G B P σ (pc + 1) lv (.int v :: st)) : zl_G B P σ pc lv (.int i :: .ref b :: st) := by
  obtain ⟨p, l, e, R, s, m, args, below, meth, c⟩ := B
  intro H locs ls hP hS hl
  subst ev
  exact va_sld E.1 E.2.1 E.2.2.2.2.2.2.2.2.2.1 E.2.2.2.2.2.2.2.2.2.2.1 (Nat.not_le.mpr E.2.2.2.2.2.2.2.2.2.2.1) hS hi hd (kk H locs ls hP hS hl)
theorem zl_top {x e : Int32} (ex : x = e) (k : zl_G B P σ pc lv (.int x :: st)) : zl_G B P σ pc lv (.int e :: st) := by
  subst ex
  exact k
theorem zl_sub {lv' : List (Nat × Value)} (ks : List Nat) (hk : lv_pick lv ks = lv') (k : zl_G B P σ pc lv' st) : zl_G B P σ pc lv st := by
  obtain ⟨p, l, e, R, s, m, args, below, meth, c⟩ := B
  intro H locs ls hP hS hl
  exact k H locs ls hP hS (lv_sub hl ks hk)
theorem zl_icmp_gt {x y : Int32} {off : Int} {tgt : Nat} (E : zl_f B P b L xs) (hd : decode cL_law pc = .ok (.if_icmp .gt off, 3)) (ht : (pc : Int) + off = (tgt : Int)) (kt : y < x → zl_G B P σ tgt lv st) (kf : ¬ y < x → zl_G B P σ (pc + 3) lv st) : zl_G B P σ pc lv (.int y :: .int x :: st) := by
  obtain ⟨p, l, e, R, s, m, args, below, meth, c⟩ := B
  intro H locs ls hP hS hl
  exact lv_icmp_gt E.1 E.2.1 hd ht (fun q => kt q H locs ls hP hS hl) (fun q => kf q H locs ls hP hS hl)
theorem zl_same {x : Int32} {off : Int} {tgt : Nat} (E : zl_f B P b L xs) (hd : decode cL_law pc = .ok (.if_icmp .eq off, 3)) (ht : (pc : Int) + off = (tgt : Int)) (kt : zl_G B P σ tgt lv st) : zl_G B P σ pc lv (.int x :: .int x :: st) := by
  obtain ⟨p, l, e, R, s, m, args, below, meth, c⟩ := B
  intro H locs ls hP hS hl
  exact lv_icmp_eq E.1 E.2.1 hd ht (fun _ => kt H locs ls hP hS hl) (fun q => absurd rfl q)
theorem zl_goto {off : Int} {tgt : Nat} (E : zl_f B P b L xs) (hd : decode cL_law pc = .ok (.goto off, 3)) (ht : (pc : Int) + off = (tgt : Int)) (kk : zl_G B P σ tgt lv st) : zl_G B P σ pc lv st := by
  obtain ⟨p, l, e, R, s, m, args, below, meth, c⟩ := B
  intro H locs ls hP hS hl
  exact lv_goto E.1 E.2.1 hd ht (kk H locs ls hP hS hl)
theorem zl_tabIn {dflt lo hi : Int} {offs : Array Int} {len : Nat} {x v : Int32} {off : Int} {tgt : Nat} (E : zl_f B P b L xs) (hd : decode cL_law pc = .ok (.tableswitch dflt lo hi offs, len)) (hx : x = v) (h1 : ¬ v.toInt < lo) (h2 : ¬ hi < v.toInt) (ho : offs[(v.toInt - lo).toNat]? = some off) (ht : (pc : Int) + off = (tgt : Int)) (kk : zl_G B P σ tgt lv st) : zl_G B P σ pc lv (.int x :: st) := by
  obtain ⟨p, l, e, R, s, m, args, below, meth, c⟩ := B
  intro H locs ls hP hS hl
  subst hx
  exact lv_tableIn E.1 E.2.1 hd h1 h2 ho ht (kk H locs ls hP hS hl)
theorem zl_tabOut {dflt lo hi : Int} {offs : Array Int} {len : Nat} {x : Int32} {tgt : Nat} (E : zl_f B P b L xs) (hd : decode cL_law pc = .ok (.tableswitch dflt lo hi offs, len)) (hx : x.toInt < lo ∨ hi < x.toInt) (ht : (pc : Int) + dflt = (tgt : Int)) (kk : zl_G B P σ tgt lv st) : zl_G B P σ pc lv (.int x :: st) := by
  obtain ⟨p, l, e, R, s, m, args, below, meth, c⟩ := B
  intro H locs ls hP hS hl
  exact lv_tableOut E.1 E.2.1 hd hx ht (kk H locs ls hP hS hl)
theorem zl_iinc {i j : Nat} {n : Int} {x v : Int32} {lv' : List (Nat × Value)} (E : zl_f B P b L xs) (hd : decode cL_law pc = .ok (.iinc i n, 3)) (hj : lv[j]? = some (i, .int x)) (hv : v = x + Int32.ofInt n) (hn : i < 4) (hl' : (i, Value.int v) :: lv.filter (fun q => !(q.1 == i) && !(q.1 + 1 == i && q.2.category == 2)) = lv') (kk : zl_G B P σ (pc + 3) lv' st) : zl_G B P σ pc lv st := by
  obtain ⟨p, l, e, R, s, m, args, below, meth, c⟩ := B
  intro H locs ls hP hS hl
  exact lv_iinc E.1 E.2.1 hd hl hj hv.symm hn hl' (fun ls2 hl2 => kk H locs ls2 hP hS hl2)
theorem zl_end (E : zl_f B P b L xs) (hd : decode cL_law pc = .ok (.ireturn, 1)) : zl_G B P σ pc lv [.int 1] := by
  obtain ⟨p, l, e, R, s, m, args, below, meth, c⟩ := B
  intro H locs ls hP hS hl
  obtain ⟨hx, hb, hr, hml, hown, hts, hK, rfl, hlk, hX, hbl, hAd, rfl⟩ := E
  refine va_forget (fun q hq => hS.2.2 q hq) ?_
  refine W.widen (k := 600000) (n := 7302250) (Nat.le_of_ble_eq_true rfl) (Nat.le_of_ble_eq_true rfl) ?_
  exact lw_ret hx hb hr hlk hd
theorem zl_call {y : MethodName} {c1 : ByteArray} {n1 i ar h1 k : Nat} {rt : FieldType} {As st0 : List Value} {o : Option (Int32 × zw_S)} {r : Int32} {τ : zw_S} (E : zl_f B P b L xs) (hl : Cond.methodLink RL i y ∈ wsL_law) (hw : zm_V y c1 n1 (some rt) ar) (hM : zc_i B.2.1 P y c1 n1 rt h1 (.ref (zw_ad P k) :: As) σ o) (ho : o = some (r, τ)) (hrc : zw_rc P k y.cls) (hh : h1 + 1 ≤ 2048 ∧ 8 + (n1 + 11) + 48 * h1 ≤ 84000) (hn : As.length = ar) (hst : st0 = As.reverse ++ .ref (zw_ad P k) :: st) (hs : (st.map fun v => v.category).sum ≤ 8) (hd : decode cL_law pc = .ok (.invokevirtual i, 3)) (kk : zl_G B P τ (pc + 3) lv (.int r :: st)) : zl_G B P σ pc lv st0 := by
  obtain ⟨p, l, e, R, s, m, args, below, meth, c⟩ := B
  intro H locs ls hP hS hls
  obtain ⟨hx, hb, hr, hml, hown, hts, hK, rfl, hlk, hX, hbl, hAd, rfl⟩ := E
  have hMet := hM r τ ho
  have hS2 : ∀ a : Nat, a < s.heap.size → H[a]? = s.heap[a]? := fun a ha => hS.2.1 a ha (Nat.not_le.mpr ha)
  have hpre : ∀ U : State, U.heap = H → s.WarmedH U.vm → va_Pc (.ref (zw_ad P k) :: As) (zw_Pre P σ) (Value.ref (zw_ad P k) :: As).toArray U := fun U hU hW => ⟨rfl, by rw [hU]; exact hP, hK.atL hS2 hU hW⟩
  have hbl2 : FrameBlind (va_Pc (.ref (zw_ad P k) :: As) (zw_Pre P σ)) := fun a U g mk q => ⟨q.1, q.2.1, q.2.2.blind⟩
  obtain ⟨hk, ci, T, N, hc, hce⟩ := hrc
  obtain ⟨fs, hfs⟩ := hce (σ k)
  have h0 := zw_at P σ hk
  rw [hfs] at h0
  have cb := callB_of (R := room_1) (rm := zw_rm h1) (own := RL) (index := i) ar hts (zm_in (c := .tt) hw.2.2.2.1) rfl rfl rfl (hts _ hw.2.2.1) (hts _ hl) ⟨hw.2.2.2.2.1, hw.2.2.2.2.2.1, hw.2.2.2.2.2.2⟩ hh
  have hrun := va_runV (rest := st) (g := F0 m pc ls st0) (locs := locs) (cells := 69) (slots := 1742) (below := below) (meth := meth) (e := e) (R := room_1) ⟨hx, hb, hml, hown, hts⟩ hMet ⟨cb, hts _ hw.1, hts _ hw.2.1⟩ ⟨hbl2, va_recv hK.1 hP hc h0, hpre⟩ rfl hn hls.1 hst (lv_room hs) hd ⟨Nat.le_of_ble_eq_true rfl, Nat.le_of_ble_eq_true rfl⟩
  refine va_calli hrun hS (fun q _ z => hAd q z) (fun q z => hAd q z) (fun r1 u t H1 locs1 ht hvm hw1 hB hz1 hk1 hS1 => ?_)
  obtain ⟨rfl, rfl⟩ := hw1
  rw [ht] at hB
  exact kk H1 locs1 ls hB hS1 hls
end ZL
set_option maxRecDepth 100000 in
set_option maxHeartbeats 8000000 in
theorem zl_loop {B : zw_B} {P : zw_P} {b L : Nat} {xs : Nat → Int32} (hL : L ≤ 3072) (E : zl_f B P b L xs) (I : zw_S → Prop) (hst : ∀ n, n < 43 → ∀ σ, I σ → ∀ a1 a2 a3 a4 a5 : Int32, ∃ r σ1 σ2, zl_opX n σ a1 a2 a3 a4 a5 = some (r, σ1) ∧ zl_opM n σ1 a1 a2 a3 a4 a5 = some (r, σ2) ∧ I σ2) :
    ∀ (n j : Nat) (x3 : Int32), j ≤ L → L + 1 ≤ j + n → x3 = nI j → ∀ σ : zw_S, I σ → zl_G B P σ 18 [(0, .ref b), (1, .ref (zw_ad P 0)), (2, .ref (zw_ad P 57)), (3, .int x3)] [] := by
  intro n
  induction n with
  | zero => intro j x3 h1 h2; exact absurd h2 (by omega)
  | succ n ih =>
    intro j x3 hj hjn ex σ hI
    refine zl_iload_n E dL_law_18 3 rfl ?_
    refine zl_aload_n E dL_law_19 0 rfl ?_
    refine zl_slen E dL_law_20 ?_
    refine zl_bipush (v := 6) E dL_law_21 (by decide) ?_
    refine zl_isub E dL_law_23 ?_
    refine zl_icmp_gt (tgt := 1435) E dL_law_24 (by decide) (fun c1 => ?_) (fun c1 => ?_)
    · refine zl_iconst (v := 1) E dL_law_1435 (by decide) ?_
      exact zl_end E dL_law_1436
    have hj6 : j + 6 ≤ L := by
      rcases Nat.lt_or_ge L (j + 6) with h | h
      · refine absurd ?_ c1
        rw [ex]
        have h6 : (6 : Int32) = nI 6 := by decide
        rw [h6, Int32.lt_iff_toInt_lt, pk_sub_toInt (by omega) (by decide), nI_toInt (by omega)]
        omega
      · exact h
    have hin : ∀ k : Nat, k < 6 → vp_in (x3 + nI k) L := fun k hk => by
      rw [ex, nI_add]
      exact vp_in_nI (by omega) (by omega)
    have h_0 : vp_in x3 L := by rw [ex]; exact vp_in_nI (by omega) (by omega)
    have h_1 : vp_in (x3 + 1) L := hin 1 (by omega)
    have h_2 : vp_in (x3 + 2) L := hin 2 (by omega)
    have h_3 : vp_in (x3 + 3) L := hin 3 (by omega)
    have h_4 : vp_in (x3 + 4) L := hin 4 (by omega)
    have h_5 : vp_in (x3 + 5) L := hin 5 (by omega)
    obtain ⟨a0, e0⟩ : ∃ y : Int32, y = xs x3.toNatClampNeg := ⟨_, rfl⟩
    obtain ⟨a1, e1⟩ : ∃ y : Int32, y = xs (x3 + 1).toNatClampNeg := ⟨_, rfl⟩
    obtain ⟨a2, e2⟩ : ∃ y : Int32, y = xs (x3 + 2).toNatClampNeg := ⟨_, rfl⟩
    obtain ⟨a3, e3⟩ : ∃ y : Int32, y = xs (x3 + 3).toNatClampNeg := ⟨_, rfl⟩
    obtain ⟨a4, e4⟩ : ∃ y : Int32, y = xs (x3 + 4).toNatClampNeg := ⟨_, rfl⟩
    obtain ⟨a5, e5⟩ : ∃ y : Int32, y = xs (x3 + 5).toNatClampNeg := ⟨_, rfl⟩
    have htail : ∀ σ2 : zw_S, I σ2 → zl_G B P σ2 1429 [(0, .ref b), (1, .ref (zw_ad P 0)), (2, .ref (zw_ad P 57)), (3, .int x3)] [] := by
      intro σ2 hI2
      obtain ⟨y3, ey⟩ : ∃ y : Int32, y = x3 + 6 := ⟨_, rfl⟩
      refine zl_iinc (j := 3) (v := y3) (lv' := [(3, .int y3), (0, .ref b), (1, .ref (zw_ad P 0)), (2, .ref (zw_ad P 57))]) E dL_law_1429 rfl (by rw [ey]; rfl) (by decide) rfl ?_
      refine zl_goto (tgt := 18) E dL_law_1432 (by decide) ?_
      refine zl_sub (lv' := [(0, .ref b), (1, .ref (zw_ad P 0)), (2, .ref (zw_ad P 57)), (3, .int y3)]) [1, 2, 3, 0] rfl ?_
      exact ih (j + 6) y3 (by omega) (by omega) (by rw [ey, ex, show (6 : Int32) = nI 6 by decide, nI_add]) σ2 hI2
    refine zl_aload_n E dL_law_27 0 rfl ?_
    refine zl_iload_n E dL_law_28 3 rfl ?_
    refine zl_sld E h_0 e0 dL_law_29 ?_
    refine zl_bipush (v := 63) E dL_law_30 (by decide) ?_
    refine zl_iand E dL_law_32 ?_
    refine zl_top (x := a0 &&& 63) rfl ?_
    generalize a0 &&& 63 = w
    by_cases c_0 : w = 0
    · obtain ⟨r, σ1, σ2, g1, g2, hI2⟩ := hst 0 (by decide) σ hI a1 a2 a3 a4 a5
      refine zl_tabIn (tgt := 220) E dL_law_33 c_0 (by decide) (by decide) rfl (by decide) ?_
      refine zl_aload_n E dL_law_220 1 rfl ?_
      refine zl_aload_n E dL_law_221 0 rfl ?_
      refine zl_iload_n E dL_law_222 3 rfl ?_
      refine zl_iconst (v := 1) E dL_law_223 (by decide) ?_
      refine zl_iadd E dL_law_224 ?_
      refine zl_sld E h_1 e1 dL_law_225 ?_
      refine zl_aload_n E dL_law_226 0 rfl ?_
      refine zl_iload_n E dL_law_227 3 rfl ?_
      refine zl_iconst (v := 2) E dL_law_228 (by decide) ?_
      refine zl_iadd E dL_law_229 ?_
      refine zl_sld E h_2 e2 dL_law_230 ?_
      refine zl_call (st := []) E (ch_4 _ (List.mem_of_getElem? (l := wsL_law_r4) (i := 22) rfl)) cm_X6_worth (c_X6_worth B.2.1 P σ a1 a2) g1 (rc_0 P) ⟨by decide, by decide⟩ rfl rfl (Nat.le_of_ble_eq_true rfl) dL_law_231 ?_
      refine zl_aload_n E dL_law_234 2 rfl ?_
      refine zl_aload_n E dL_law_235 0 rfl ?_
      refine zl_iload_n E dL_law_236 3 rfl ?_
      refine zl_iconst (v := 1) E dL_law_237 (by decide) ?_
      refine zl_iadd E dL_law_238 ?_
      refine zl_sld E h_1 e1 dL_law_239 ?_
      refine zl_aload_n E dL_law_240 0 rfl ?_
      refine zl_iload_n E dL_law_241 3 rfl ?_
      refine zl_iconst (v := 2) E dL_law_242 (by decide) ?_
      refine zl_iadd E dL_law_243 ?_
      refine zl_sld E h_2 e2 dL_law_244 ?_
      refine zl_call (st := [.int r]) E (ch_5 _ (List.mem_of_getElem? (l := wsL_law_r5) (i := 14) rfl)) cm_X7_worth (c_X7_worth B.2.1 P σ1 a1 a2) g2 (rc_57 P) ⟨by decide, by decide⟩ rfl rfl (Nat.le_of_ble_eq_true rfl) dL_law_245 ?_
      refine zl_same (tgt := 1429) E dL_law_248 (by decide) ?_
      exact htail σ2 hI2
    by_cases c_1 : w = 1
    · obtain ⟨r, σ1, σ2, g1, g2, hI2⟩ := hst 1 (by decide) σ hI a1 a2 a3 a4 a5
      refine zl_tabIn (tgt := 253) E dL_law_33 c_1 (by decide) (by decide) rfl (by decide) ?_
      refine zl_aload_n E dL_law_253 1 rfl ?_
      refine zl_aload_n E dL_law_254 0 rfl ?_
      refine zl_iload_n E dL_law_255 3 rfl ?_
      refine zl_iconst (v := 1) E dL_law_256 (by decide) ?_
      refine zl_iadd E dL_law_257 ?_
      refine zl_sld E h_1 e1 dL_law_258 ?_
      refine zl_aload_n E dL_law_259 0 rfl ?_
      refine zl_iload_n E dL_law_260 3 rfl ?_
      refine zl_iconst (v := 2) E dL_law_261 (by decide) ?_
      refine zl_iadd E dL_law_262 ?_
      refine zl_sld E h_2 e2 dL_law_263 ?_
      refine zl_aload_n E dL_law_264 0 rfl ?_
      refine zl_iload_n E dL_law_265 3 rfl ?_
      refine zl_iconst (v := 3) E dL_law_266 (by decide) ?_
      refine zl_iadd E dL_law_267 ?_
      refine zl_sld E h_3 e3 dL_law_268 ?_
      refine zl_call (st := []) E (ch_6 _ (List.mem_of_getElem? (l := wsL_law_r6) (i := 11) rfl)) cm_X6_task (c_X6_task B.2.1 P σ a1 a2 a3) g1 (rc_0 P) ⟨by decide, by decide⟩ rfl rfl (Nat.le_of_ble_eq_true rfl) dL_law_269 ?_
      refine zl_aload_n E dL_law_272 2 rfl ?_
      refine zl_aload_n E dL_law_273 0 rfl ?_
      refine zl_iload_n E dL_law_274 3 rfl ?_
      refine zl_iconst (v := 1) E dL_law_275 (by decide) ?_
      refine zl_iadd E dL_law_276 ?_
      refine zl_sld E h_1 e1 dL_law_277 ?_
      refine zl_aload_n E dL_law_278 0 rfl ?_
      refine zl_iload_n E dL_law_279 3 rfl ?_
      refine zl_iconst (v := 2) E dL_law_280 (by decide) ?_
      refine zl_iadd E dL_law_281 ?_
      refine zl_sld E h_2 e2 dL_law_282 ?_
      refine zl_aload_n E dL_law_283 0 rfl ?_
      refine zl_iload_n E dL_law_284 3 rfl ?_
      refine zl_iconst (v := 3) E dL_law_285 (by decide) ?_
      refine zl_iadd E dL_law_286 ?_
      refine zl_sld E h_3 e3 dL_law_287 ?_
      refine zl_call (st := [.int r]) E (ch_7 _ (List.mem_of_getElem? (l := wsL_law_r7) (i := 3) rfl)) cm_X7_task (c_X7_task B.2.1 P σ1 a1 a2 a3) g2 (rc_57 P) ⟨by decide, by decide⟩ rfl rfl (Nat.le_of_ble_eq_true rfl) dL_law_288 ?_
      refine zl_same (tgt := 1429) E dL_law_291 (by decide) ?_
      exact htail σ2 hI2
    by_cases c_2 : w = 2
    · obtain ⟨r, σ1, σ2, g1, g2, hI2⟩ := hst 2 (by decide) σ hI a1 a2 a3 a4 a5
      refine zl_tabIn (tgt := 296) E dL_law_33 c_2 (by decide) (by decide) rfl (by decide) ?_
      refine zl_aload_n E dL_law_296 1 rfl ?_
      refine zl_aload_n E dL_law_297 0 rfl ?_
      refine zl_iload_n E dL_law_298 3 rfl ?_
      refine zl_iconst (v := 1) E dL_law_299 (by decide) ?_
      refine zl_iadd E dL_law_300 ?_
      refine zl_sld E h_1 e1 dL_law_301 ?_
      refine zl_aload_n E dL_law_302 0 rfl ?_
      refine zl_iload_n E dL_law_303 3 rfl ?_
      refine zl_iconst (v := 2) E dL_law_304 (by decide) ?_
      refine zl_iadd E dL_law_305 ?_
      refine zl_sld E h_2 e2 dL_law_306 ?_
      refine zl_call (st := []) E (ch_7 _ (List.mem_of_getElem? (l := wsL_law_r7) (i := 17) rfl)) cm_X6_taskOf (c_X6_taskOf B.2.1 P σ a1 a2) g1 (rc_0 P) ⟨by decide, by decide⟩ rfl rfl (Nat.le_of_ble_eq_true rfl) dL_law_307 ?_
      refine zl_aload_n E dL_law_310 2 rfl ?_
      refine zl_aload_n E dL_law_311 0 rfl ?_
      refine zl_iload_n E dL_law_312 3 rfl ?_
      refine zl_iconst (v := 1) E dL_law_313 (by decide) ?_
      refine zl_iadd E dL_law_314 ?_
      refine zl_sld E h_1 e1 dL_law_315 ?_
      refine zl_aload_n E dL_law_316 0 rfl ?_
      refine zl_iload_n E dL_law_317 3 rfl ?_
      refine zl_iconst (v := 2) E dL_law_318 (by decide) ?_
      refine zl_iadd E dL_law_319 ?_
      refine zl_sld E h_2 e2 dL_law_320 ?_
      refine zl_call (st := [.int r]) E (ch_8 _ (List.mem_of_getElem? (l := wsL_law_r8) (i := 22) rfl)) cm_X7_taskOf (c_X7_taskOf B.2.1 P σ1 a1 a2) g2 (rc_57 P) ⟨by decide, by decide⟩ rfl rfl (Nat.le_of_ble_eq_true rfl) dL_law_321 ?_
      refine zl_same (tgt := 1429) E dL_law_324 (by decide) ?_
      exact htail σ2 hI2
    by_cases c_3 : w = 3
    · obtain ⟨r, σ1, σ2, g1, g2, hI2⟩ := hst 3 (by decide) σ hI a1 a2 a3 a4 a5
      refine zl_tabIn (tgt := 329) E dL_law_33 c_3 (by decide) (by decide) rfl (by decide) ?_
      refine zl_aload_n E dL_law_329 1 rfl ?_
      refine zl_aload_n E dL_law_330 0 rfl ?_
      refine zl_iload_n E dL_law_331 3 rfl ?_
      refine zl_iconst (v := 1) E dL_law_332 (by decide) ?_
      refine zl_iadd E dL_law_333 ?_
      refine zl_sld E h_1 e1 dL_law_334 ?_
      refine zl_aload_n E dL_law_335 0 rfl ?_
      refine zl_iload_n E dL_law_336 3 rfl ?_
      refine zl_iconst (v := 2) E dL_law_337 (by decide) ?_
      refine zl_iadd E dL_law_338 ?_
      refine zl_sld E h_2 e2 dL_law_339 ?_
      refine zl_call (st := []) E (ch_10 _ (List.mem_of_getElem? (l := wsL_law_r10) (i := 3) rfl)) cm_X6_turn (c_X6_turn B.2.1 P σ a1 a2) g1 (rc_0 P) ⟨by decide, by decide⟩ rfl rfl (Nat.le_of_ble_eq_true rfl) dL_law_340 ?_
      refine zl_aload_n E dL_law_343 2 rfl ?_
      refine zl_aload_n E dL_law_344 0 rfl ?_
      refine zl_iload_n E dL_law_345 3 rfl ?_
      refine zl_iconst (v := 1) E dL_law_346 (by decide) ?_
      refine zl_iadd E dL_law_347 ?_
      refine zl_sld E h_1 e1 dL_law_348 ?_
      refine zl_aload_n E dL_law_349 0 rfl ?_
      refine zl_iload_n E dL_law_350 3 rfl ?_
      refine zl_iconst (v := 2) E dL_law_351 (by decide) ?_
      refine zl_iadd E dL_law_352 ?_
      refine zl_sld E h_2 e2 dL_law_353 ?_
      refine zl_call (st := [.int r]) E (ch_10 _ (List.mem_of_getElem? (l := wsL_law_r10) (i := 7) rfl)) cm_X7_turn (c_X7_turn B.2.1 P σ1 a1 a2) g2 (rc_57 P) ⟨by decide, by decide⟩ rfl rfl (Nat.le_of_ble_eq_true rfl) dL_law_354 ?_
      refine zl_same (tgt := 1429) E dL_law_357 (by decide) ?_
      exact htail σ2 hI2
    by_cases c_4 : w = 4
    · obtain ⟨r, σ1, σ2, g1, g2, hI2⟩ := hst 4 (by decide) σ hI a1 a2 a3 a4 a5
      refine zl_tabIn (tgt := 362) E dL_law_33 c_4 (by decide) (by decide) rfl (by decide) ?_
      refine zl_aload_n E dL_law_362 1 rfl ?_
      refine zl_aload_n E dL_law_363 0 rfl ?_
      refine zl_iload_n E dL_law_364 3 rfl ?_
      refine zl_iconst (v := 1) E dL_law_365 (by decide) ?_
      refine zl_iadd E dL_law_366 ?_
      refine zl_sld E h_1 e1 dL_law_367 ?_
      refine zl_aload_n E dL_law_368 0 rfl ?_
      refine zl_iload_n E dL_law_369 3 rfl ?_
      refine zl_iconst (v := 2) E dL_law_370 (by decide) ?_
      refine zl_iadd E dL_law_371 ?_
      refine zl_sld E h_2 e2 dL_law_372 ?_
      refine zl_call (st := []) E (ch_10 _ (List.mem_of_getElem? (l := wsL_law_r10) (i := 11) rfl)) cm_X6_needs (c_X6_needs B.2.1 P σ a1 a2) g1 (rc_0 P) ⟨by decide, by decide⟩ rfl rfl (Nat.le_of_ble_eq_true rfl) dL_law_373 ?_
      refine zl_aload_n E dL_law_376 2 rfl ?_
      refine zl_aload_n E dL_law_377 0 rfl ?_
      refine zl_iload_n E dL_law_378 3 rfl ?_
      refine zl_iconst (v := 1) E dL_law_379 (by decide) ?_
      refine zl_iadd E dL_law_380 ?_
      refine zl_sld E h_1 e1 dL_law_381 ?_
      refine zl_aload_n E dL_law_382 0 rfl ?_
      refine zl_iload_n E dL_law_383 3 rfl ?_
      refine zl_iconst (v := 2) E dL_law_384 (by decide) ?_
      refine zl_iadd E dL_law_385 ?_
      refine zl_sld E h_2 e2 dL_law_386 ?_
      refine zl_call (st := [.int r]) E (ch_10 _ (List.mem_of_getElem? (l := wsL_law_r10) (i := 15) rfl)) cm_X7_needs (c_X7_needs B.2.1 P σ1 a1 a2) g2 (rc_57 P) ⟨by decide, by decide⟩ rfl rfl (Nat.le_of_ble_eq_true rfl) dL_law_387 ?_
      refine zl_same (tgt := 1429) E dL_law_390 (by decide) ?_
      exact htail σ2 hI2
    by_cases c_5 : w = 5
    · obtain ⟨r, σ1, σ2, g1, g2, hI2⟩ := hst 5 (by decide) σ hI a1 a2 a3 a4 a5
      refine zl_tabIn (tgt := 395) E dL_law_33 c_5 (by decide) (by decide) rfl (by decide) ?_
      refine zl_aload_n E dL_law_395 1 rfl ?_
      refine zl_aload_n E dL_law_396 0 rfl ?_
      refine zl_iload_n E dL_law_397 3 rfl ?_
      refine zl_iconst (v := 1) E dL_law_398 (by decide) ?_
      refine zl_iadd E dL_law_399 ?_
      refine zl_sld E h_1 e1 dL_law_400 ?_
      refine zl_call (st := []) E (ch_10 _ (List.mem_of_getElem? (l := wsL_law_r10) (i := 19) rfl)) cm_X6_strike (c_X6_strike B.2.1 P σ a1) g1 (rc_0 P) ⟨by decide, by decide⟩ rfl rfl (Nat.le_of_ble_eq_true rfl) dL_law_401 ?_
      refine zl_aload_n E dL_law_404 2 rfl ?_
      refine zl_aload_n E dL_law_405 0 rfl ?_
      refine zl_iload_n E dL_law_406 3 rfl ?_
      refine zl_iconst (v := 1) E dL_law_407 (by decide) ?_
      refine zl_iadd E dL_law_408 ?_
      refine zl_sld E h_1 e1 dL_law_409 ?_
      refine zl_call (st := [.int r]) E (ch_10 _ (List.mem_of_getElem? (l := wsL_law_r10) (i := 23) rfl)) cm_X7_strike (c_X7_strike B.2.1 P σ1 a1) g2 (rc_57 P) ⟨by decide, by decide⟩ rfl rfl (Nat.le_of_ble_eq_true rfl) dL_law_410 ?_
      refine zl_same (tgt := 1429) E dL_law_413 (by decide) ?_
      exact htail σ2 hI2
    by_cases c_6 : w = 6
    · obtain ⟨r, σ1, σ2, g1, g2, hI2⟩ := hst 6 (by decide) σ hI a1 a2 a3 a4 a5
      refine zl_tabIn (tgt := 418) E dL_law_33 c_6 (by decide) (by decide) rfl (by decide) ?_
      refine zl_aload_n E dL_law_418 1 rfl ?_
      refine zl_aload_n E dL_law_419 0 rfl ?_
      refine zl_iload_n E dL_law_420 3 rfl ?_
      refine zl_iconst (v := 1) E dL_law_421 (by decide) ?_
      refine zl_iadd E dL_law_422 ?_
      refine zl_sld E h_1 e1 dL_law_423 ?_
      refine zl_aload_n E dL_law_424 0 rfl ?_
      refine zl_iload_n E dL_law_425 3 rfl ?_
      refine zl_iconst (v := 2) E dL_law_426 (by decide) ?_
      refine zl_iadd E dL_law_427 ?_
      refine zl_sld E h_2 e2 dL_law_428 ?_
      refine zl_call (st := []) E (ch_11 _ (List.mem_of_getElem? (l := wsL_law_r11) (i := 3) rfl)) cm_X6_nameOf (c_X6_nameOf B.2.1 P σ a1 a2) g1 (rc_0 P) ⟨by decide, by decide⟩ rfl rfl (Nat.le_of_ble_eq_true rfl) dL_law_429 ?_
      refine zl_aload_n E dL_law_432 2 rfl ?_
      refine zl_aload_n E dL_law_433 0 rfl ?_
      refine zl_iload_n E dL_law_434 3 rfl ?_
      refine zl_iconst (v := 1) E dL_law_435 (by decide) ?_
      refine zl_iadd E dL_law_436 ?_
      refine zl_sld E h_1 e1 dL_law_437 ?_
      refine zl_aload_n E dL_law_438 0 rfl ?_
      refine zl_iload_n E dL_law_439 3 rfl ?_
      refine zl_iconst (v := 2) E dL_law_440 (by decide) ?_
      refine zl_iadd E dL_law_441 ?_
      refine zl_sld E h_2 e2 dL_law_442 ?_
      refine zl_call (st := [.int r]) E (ch_12 _ (List.mem_of_getElem? (l := wsL_law_r12) (i := 13) rfl)) cm_X7_nameOf (c_X7_nameOf B.2.1 P σ1 a1 a2) g2 (rc_57 P) ⟨by decide, by decide⟩ rfl rfl (Nat.le_of_ble_eq_true rfl) dL_law_443 ?_
      refine zl_same (tgt := 1429) E dL_law_446 (by decide) ?_
      exact htail σ2 hI2
    by_cases c_7 : w = 7
    · obtain ⟨r, σ1, σ2, g1, g2, hI2⟩ := hst 7 (by decide) σ hI a1 a2 a3 a4 a5
      refine zl_tabIn (tgt := 451) E dL_law_33 c_7 (by decide) (by decide) rfl (by decide) ?_
      refine zl_aload_n E dL_law_451 1 rfl ?_
      refine zl_call (st := []) E (ch_13 _ (List.mem_of_getElem? (l := wsL_law_r13) (i := 13) rfl)) cm_X6_rings (c_X6_rings B.2.1 P σ) g1 (rc_0 P) ⟨by decide, by decide⟩ rfl rfl (Nat.le_of_ble_eq_true rfl) dL_law_452 ?_
      refine zl_aload_n E dL_law_455 2 rfl ?_
      refine zl_call (st := [.int r]) E (ch_13 _ (List.mem_of_getElem? (l := wsL_law_r13) (i := 17) rfl)) cm_X7_rings (c_X7_rings B.2.1 P σ1) g2 (rc_57 P) ⟨by decide, by decide⟩ rfl rfl (Nat.le_of_ble_eq_true rfl) dL_law_456 ?_
      refine zl_same (tgt := 1429) E dL_law_459 (by decide) ?_
      exact htail σ2 hI2
    by_cases c_8 : w = 8
    · obtain ⟨r, σ1, σ2, g1, g2, hI2⟩ := hst 8 (by decide) σ hI a1 a2 a3 a4 a5
      refine zl_tabIn (tgt := 464) E dL_law_33 c_8 (by decide) (by decide) rfl (by decide) ?_
      refine zl_aload_n E dL_law_464 1 rfl ?_
      refine zl_aload_n E dL_law_465 0 rfl ?_
      refine zl_iload_n E dL_law_466 3 rfl ?_
      refine zl_iconst (v := 1) E dL_law_467 (by decide) ?_
      refine zl_iadd E dL_law_468 ?_
      refine zl_sld E h_1 e1 dL_law_469 ?_
      refine zl_call (st := []) E (ch_13 _ (List.mem_of_getElem? (l := wsL_law_r13) (i := 21) rfl)) cm_X6_waits (c_X6_waits B.2.1 P σ a1) g1 (rc_0 P) ⟨by decide, by decide⟩ rfl rfl (Nat.le_of_ble_eq_true rfl) dL_law_470 ?_
      refine zl_aload_n E dL_law_473 2 rfl ?_
      refine zl_aload_n E dL_law_474 0 rfl ?_
      refine zl_iload_n E dL_law_475 3 rfl ?_
      refine zl_iconst (v := 1) E dL_law_476 (by decide) ?_
      refine zl_iadd E dL_law_477 ?_
      refine zl_sld E h_1 e1 dL_law_478 ?_
      refine zl_call (st := [.int r]) E (ch_14 _ (List.mem_of_getElem? (l := wsL_law_r14) (i := 1) rfl)) cm_X7_waits (c_X7_waits B.2.1 P σ1 a1) g2 (rc_57 P) ⟨by decide, by decide⟩ rfl rfl (Nat.le_of_ble_eq_true rfl) dL_law_479 ?_
      refine zl_same (tgt := 1429) E dL_law_482 (by decide) ?_
      exact htail σ2 hI2
    by_cases c_9 : w = 9
    · obtain ⟨r, σ1, σ2, g1, g2, hI2⟩ := hst 9 (by decide) σ hI a1 a2 a3 a4 a5
      refine zl_tabIn (tgt := 487) E dL_law_33 c_9 (by decide) (by decide) rfl (by decide) ?_
      refine zl_aload_n E dL_law_487 1 rfl ?_
      refine zl_aload_n E dL_law_488 0 rfl ?_
      refine zl_iload_n E dL_law_489 3 rfl ?_
      refine zl_iconst (v := 1) E dL_law_490 (by decide) ?_
      refine zl_iadd E dL_law_491 ?_
      refine zl_sld E h_1 e1 dL_law_492 ?_
      refine zl_call (st := []) E (ch_14 _ (List.mem_of_getElem? (l := wsL_law_r14) (i := 5) rfl)) cm_X6_person (c_X6_person B.2.1 P σ a1) g1 (rc_0 P) ⟨by decide, by decide⟩ rfl rfl (Nat.le_of_ble_eq_true rfl) dL_law_493 ?_
      refine zl_aload_n E dL_law_496 2 rfl ?_
      refine zl_aload_n E dL_law_497 0 rfl ?_
      refine zl_iload_n E dL_law_498 3 rfl ?_
      refine zl_iconst (v := 1) E dL_law_499 (by decide) ?_
      refine zl_iadd E dL_law_500 ?_
      refine zl_sld E h_1 e1 dL_law_501 ?_
      refine zl_call (st := [.int r]) E (ch_14 _ (List.mem_of_getElem? (l := wsL_law_r14) (i := 14) rfl)) cm_X7_person (c_X7_person B.2.1 P σ1 a1) g2 (rc_57 P) ⟨by decide, by decide⟩ rfl rfl (Nat.le_of_ble_eq_true rfl) dL_law_502 ?_
      refine zl_same (tgt := 1429) E dL_law_505 (by decide) ?_
      exact htail σ2 hI2
    by_cases c_10 : w = 10
    · obtain ⟨r, σ1, σ2, g1, g2, hI2⟩ := hst 10 (by decide) σ hI a1 a2 a3 a4 a5
      refine zl_tabIn (tgt := 510) E dL_law_33 c_10 (by decide) (by decide) rfl (by decide) ?_
      refine zl_aload_n E dL_law_510 1 rfl ?_
      refine zl_aload_n E dL_law_511 0 rfl ?_
      refine zl_iload_n E dL_law_512 3 rfl ?_
      refine zl_iconst (v := 1) E dL_law_513 (by decide) ?_
      refine zl_iadd E dL_law_514 ?_
      refine zl_sld E h_1 e1 dL_law_515 ?_
      refine zl_aload_n E dL_law_516 0 rfl ?_
      refine zl_iload_n E dL_law_517 3 rfl ?_
      refine zl_iconst (v := 2) E dL_law_518 (by decide) ?_
      refine zl_iadd E dL_law_519 ?_
      refine zl_sld E h_2 e2 dL_law_520 ?_
      refine zl_call (st := []) E (ch_15 _ (List.mem_of_getElem? (l := wsL_law_r15) (i := 2) rfl)) cm_X6_of (c_X6_of B.2.1 P σ a1 a2) g1 (rc_0 P) ⟨by decide, by decide⟩ rfl rfl (Nat.le_of_ble_eq_true rfl) dL_law_521 ?_
      refine zl_aload_n E dL_law_524 2 rfl ?_
      refine zl_aload_n E dL_law_525 0 rfl ?_
      refine zl_iload_n E dL_law_526 3 rfl ?_
      refine zl_iconst (v := 1) E dL_law_527 (by decide) ?_
      refine zl_iadd E dL_law_528 ?_
      refine zl_sld E h_1 e1 dL_law_529 ?_
      refine zl_aload_n E dL_law_530 0 rfl ?_
      refine zl_iload_n E dL_law_531 3 rfl ?_
      refine zl_iconst (v := 2) E dL_law_532 (by decide) ?_
      refine zl_iadd E dL_law_533 ?_
      refine zl_sld E h_2 e2 dL_law_534 ?_
      refine zl_call (st := [.int r]) E (ch_15 _ (List.mem_of_getElem? (l := wsL_law_r15) (i := 14) rfl)) cm_X7_of (c_X7_of B.2.1 P σ1 a1 a2) g2 (rc_57 P) ⟨by decide, by decide⟩ rfl rfl (Nat.le_of_ble_eq_true rfl) dL_law_535 ?_
      refine zl_same (tgt := 1429) E dL_law_538 (by decide) ?_
      exact htail σ2 hI2
    by_cases c_11 : w = 11
    · obtain ⟨r, σ1, σ2, g1, g2, hI2⟩ := hst 11 (by decide) σ hI a1 a2 a3 a4 a5
      refine zl_tabIn (tgt := 543) E dL_law_33 c_11 (by decide) (by decide) rfl (by decide) ?_
      refine zl_aload_n E dL_law_543 1 rfl ?_
      refine zl_aload_n E dL_law_544 0 rfl ?_
      refine zl_iload_n E dL_law_545 3 rfl ?_
      refine zl_iconst (v := 1) E dL_law_546 (by decide) ?_
      refine zl_iadd E dL_law_547 ?_
      refine zl_sld E h_1 e1 dL_law_548 ?_
      refine zl_aload_n E dL_law_549 0 rfl ?_
      refine zl_iload_n E dL_law_550 3 rfl ?_
      refine zl_iconst (v := 2) E dL_law_551 (by decide) ?_
      refine zl_iadd E dL_law_552 ?_
      refine zl_sld E h_2 e2 dL_law_553 ?_
      refine zl_aload_n E dL_law_554 0 rfl ?_
      refine zl_iload_n E dL_law_555 3 rfl ?_
      refine zl_iconst (v := 3) E dL_law_556 (by decide) ?_
      refine zl_iadd E dL_law_557 ?_
      refine zl_sld E h_3 e3 dL_law_558 ?_
      refine zl_call (st := []) E (ch_15 _ (List.mem_of_getElem? (l := wsL_law_r15) (i := 23) rfl)) cm_X6_change (c_X6_change B.2.1 P σ a1 a2 a3) g1 (rc_0 P) ⟨by decide, by decide⟩ rfl rfl (Nat.le_of_ble_eq_true rfl) dL_law_559 ?_
      refine zl_aload_n E dL_law_562 2 rfl ?_
      refine zl_aload_n E dL_law_563 0 rfl ?_
      refine zl_iload_n E dL_law_564 3 rfl ?_
      refine zl_iconst (v := 1) E dL_law_565 (by decide) ?_
      refine zl_iadd E dL_law_566 ?_
      refine zl_sld E h_1 e1 dL_law_567 ?_
      refine zl_aload_n E dL_law_568 0 rfl ?_
      refine zl_iload_n E dL_law_569 3 rfl ?_
      refine zl_iconst (v := 2) E dL_law_570 (by decide) ?_
      refine zl_iadd E dL_law_571 ?_
      refine zl_sld E h_2 e2 dL_law_572 ?_
      refine zl_aload_n E dL_law_573 0 rfl ?_
      refine zl_iload_n E dL_law_574 3 rfl ?_
      refine zl_iconst (v := 3) E dL_law_575 (by decide) ?_
      refine zl_iadd E dL_law_576 ?_
      refine zl_sld E h_3 e3 dL_law_577 ?_
      refine zl_call (st := [.int r]) E (ch_16 _ (List.mem_of_getElem? (l := wsL_law_r16) (i := 3) rfl)) cm_X7_change (c_X7_change B.2.1 P σ1 a1 a2 a3) g2 (rc_57 P) ⟨by decide, by decide⟩ rfl rfl (Nat.le_of_ble_eq_true rfl) dL_law_578 ?_
      refine zl_same (tgt := 1429) E dL_law_581 (by decide) ?_
      exact htail σ2 hI2
    by_cases c_12 : w = 12
    · obtain ⟨r, σ1, σ2, g1, g2, hI2⟩ := hst 12 (by decide) σ hI a1 a2 a3 a4 a5
      refine zl_tabIn (tgt := 586) E dL_law_33 c_12 (by decide) (by decide) rfl (by decide) ?_
      refine zl_aload_n E dL_law_586 1 rfl ?_
      refine zl_aload_n E dL_law_587 0 rfl ?_
      refine zl_iload_n E dL_law_588 3 rfl ?_
      refine zl_iconst (v := 1) E dL_law_589 (by decide) ?_
      refine zl_iadd E dL_law_590 ?_
      refine zl_sld E h_1 e1 dL_law_591 ?_
      refine zl_aload_n E dL_law_592 0 rfl ?_
      refine zl_iload_n E dL_law_593 3 rfl ?_
      refine zl_iconst (v := 2) E dL_law_594 (by decide) ?_
      refine zl_iadd E dL_law_595 ?_
      refine zl_sld E h_2 e2 dL_law_596 ?_
      refine zl_call (st := []) E (ch_16 _ (List.mem_of_getElem? (l := wsL_law_r16) (i := 8) rfl)) cm_X6_helps (c_X6_helps B.2.1 P σ a1 a2) g1 (rc_0 P) ⟨by decide, by decide⟩ rfl rfl (Nat.le_of_ble_eq_true rfl) dL_law_597 ?_
      refine zl_aload_n E dL_law_600 2 rfl ?_
      refine zl_aload_n E dL_law_601 0 rfl ?_
      refine zl_iload_n E dL_law_602 3 rfl ?_
      refine zl_iconst (v := 1) E dL_law_603 (by decide) ?_
      refine zl_iadd E dL_law_604 ?_
      refine zl_sld E h_1 e1 dL_law_605 ?_
      refine zl_aload_n E dL_law_606 0 rfl ?_
      refine zl_iload_n E dL_law_607 3 rfl ?_
      refine zl_iconst (v := 2) E dL_law_608 (by decide) ?_
      refine zl_iadd E dL_law_609 ?_
      refine zl_sld E h_2 e2 dL_law_610 ?_
      refine zl_call (st := [.int r]) E (ch_16 _ (List.mem_of_getElem? (l := wsL_law_r16) (i := 12) rfl)) cm_X7_helps (c_X7_helps B.2.1 P σ1 a1 a2) g2 (rc_57 P) ⟨by decide, by decide⟩ rfl rfl (Nat.le_of_ble_eq_true rfl) dL_law_611 ?_
      refine zl_same (tgt := 1429) E dL_law_614 (by decide) ?_
      exact htail σ2 hI2
    by_cases c_13 : w = 13
    · obtain ⟨r, σ1, σ2, g1, g2, hI2⟩ := hst 13 (by decide) σ hI a1 a2 a3 a4 a5
      refine zl_tabIn (tgt := 619) E dL_law_33 c_13 (by decide) (by decide) rfl (by decide) ?_
      refine zl_aload_n E dL_law_619 1 rfl ?_
      refine zl_aload_n E dL_law_620 0 rfl ?_
      refine zl_iload_n E dL_law_621 3 rfl ?_
      refine zl_iconst (v := 1) E dL_law_622 (by decide) ?_
      refine zl_iadd E dL_law_623 ?_
      refine zl_sld E h_1 e1 dL_law_624 ?_
      refine zl_aload_n E dL_law_625 0 rfl ?_
      refine zl_iload_n E dL_law_626 3 rfl ?_
      refine zl_iconst (v := 2) E dL_law_627 (by decide) ?_
      refine zl_iadd E dL_law_628 ?_
      refine zl_sld E h_2 e2 dL_law_629 ?_
      refine zl_call (st := []) E (ch_16 _ (List.mem_of_getElem? (l := wsL_law_r16) (i := 16) rfl)) cm_X6_take (c_X6_take B.2.1 P σ a1 a2) g1 (rc_0 P) ⟨by decide, by decide⟩ rfl rfl (Nat.le_of_ble_eq_true rfl) dL_law_630 ?_
      refine zl_aload_n E dL_law_633 2 rfl ?_
      refine zl_aload_n E dL_law_634 0 rfl ?_
      refine zl_iload_n E dL_law_635 3 rfl ?_
      refine zl_iconst (v := 1) E dL_law_636 (by decide) ?_
      refine zl_iadd E dL_law_637 ?_
      refine zl_sld E h_1 e1 dL_law_638 ?_
      refine zl_aload_n E dL_law_639 0 rfl ?_
      refine zl_iload_n E dL_law_640 3 rfl ?_
      refine zl_iconst (v := 2) E dL_law_641 (by decide) ?_
      refine zl_iadd E dL_law_642 ?_
      refine zl_sld E h_2 e2 dL_law_643 ?_
      refine zl_call (st := [.int r]) E (ch_17 _ (List.mem_of_getElem? (l := wsL_law_r17) (i := 2) rfl)) cm_X7_take (c_X7_take B.2.1 P σ1 a1 a2) g2 (rc_57 P) ⟨by decide, by decide⟩ rfl rfl (Nat.le_of_ble_eq_true rfl) dL_law_644 ?_
      refine zl_same (tgt := 1429) E dL_law_647 (by decide) ?_
      exact htail σ2 hI2
    by_cases c_14 : w = 14
    · obtain ⟨r, σ1, σ2, g1, g2, hI2⟩ := hst 14 (by decide) σ hI a1 a2 a3 a4 a5
      refine zl_tabIn (tgt := 652) E dL_law_33 c_14 (by decide) (by decide) rfl (by decide) ?_
      refine zl_aload_n E dL_law_652 1 rfl ?_
      refine zl_aload_n E dL_law_653 0 rfl ?_
      refine zl_iload_n E dL_law_654 3 rfl ?_
      refine zl_iconst (v := 1) E dL_law_655 (by decide) ?_
      refine zl_iadd E dL_law_656 ?_
      refine zl_sld E h_1 e1 dL_law_657 ?_
      refine zl_aload_n E dL_law_658 0 rfl ?_
      refine zl_iload_n E dL_law_659 3 rfl ?_
      refine zl_iconst (v := 2) E dL_law_660 (by decide) ?_
      refine zl_iadd E dL_law_661 ?_
      refine zl_sld E h_2 e2 dL_law_662 ?_
      refine zl_call (st := []) E (ch_17 _ (List.mem_of_getElem? (l := wsL_law_r17) (i := 11) rfl)) cm_X6_exchange (c_X6_exchange B.2.1 P σ a1 a2) g1 (rc_0 P) ⟨by decide, by decide⟩ rfl rfl (Nat.le_of_ble_eq_true rfl) dL_law_663 ?_
      refine zl_aload_n E dL_law_666 2 rfl ?_
      refine zl_aload_n E dL_law_667 0 rfl ?_
      refine zl_iload_n E dL_law_668 3 rfl ?_
      refine zl_iconst (v := 1) E dL_law_669 (by decide) ?_
      refine zl_iadd E dL_law_670 ?_
      refine zl_sld E h_1 e1 dL_law_671 ?_
      refine zl_aload_n E dL_law_672 0 rfl ?_
      refine zl_iload_n E dL_law_673 3 rfl ?_
      refine zl_iconst (v := 2) E dL_law_674 (by decide) ?_
      refine zl_iadd E dL_law_675 ?_
      refine zl_sld E h_2 e2 dL_law_676 ?_
      refine zl_call (st := [.int r]) E (ch_17 _ (List.mem_of_getElem? (l := wsL_law_r17) (i := 15) rfl)) cm_X7_exchange (c_X7_exchange B.2.1 P σ1 a1 a2) g2 (rc_57 P) ⟨by decide, by decide⟩ rfl rfl (Nat.le_of_ble_eq_true rfl) dL_law_677 ?_
      refine zl_same (tgt := 1429) E dL_law_680 (by decide) ?_
      exact htail σ2 hI2
    by_cases c_15 : w = 15
    · obtain ⟨r, σ1, σ2, g1, g2, hI2⟩ := hst 15 (by decide) σ hI a1 a2 a3 a4 a5
      refine zl_tabIn (tgt := 685) E dL_law_33 c_15 (by decide) (by decide) rfl (by decide) ?_
      refine zl_aload_n E dL_law_685 1 rfl ?_
      refine zl_aload_n E dL_law_686 0 rfl ?_
      refine zl_iload_n E dL_law_687 3 rfl ?_
      refine zl_iconst (v := 1) E dL_law_688 (by decide) ?_
      refine zl_iadd E dL_law_689 ?_
      refine zl_sld E h_1 e1 dL_law_690 ?_
      refine zl_call (st := []) E (ch_17 _ (List.mem_of_getElem? (l := wsL_law_r17) (i := 19) rfl)) cm_X6_born (c_X6_born B.2.1 P σ a1) g1 (rc_0 P) ⟨by decide, by decide⟩ rfl rfl (Nat.le_of_ble_eq_true rfl) dL_law_691 ?_
      refine zl_aload_n E dL_law_694 2 rfl ?_
      refine zl_aload_n E dL_law_695 0 rfl ?_
      refine zl_iload_n E dL_law_696 3 rfl ?_
      refine zl_iconst (v := 1) E dL_law_697 (by decide) ?_
      refine zl_iadd E dL_law_698 ?_
      refine zl_sld E h_1 e1 dL_law_699 ?_
      refine zl_call (st := [.int r]) E (ch_18 _ (List.mem_of_getElem? (l := wsL_law_r18) (i := 4) rfl)) cm_X7_born (c_X7_born B.2.1 P σ1 a1) g2 (rc_57 P) ⟨by decide, by decide⟩ rfl rfl (Nat.le_of_ble_eq_true rfl) dL_law_700 ?_
      refine zl_same (tgt := 1429) E dL_law_703 (by decide) ?_
      exact htail σ2 hI2
    by_cases c_16 : w = 16
    · obtain ⟨r, σ1, σ2, g1, g2, hI2⟩ := hst 16 (by decide) σ hI a1 a2 a3 a4 a5
      refine zl_tabIn (tgt := 708) E dL_law_33 c_16 (by decide) (by decide) rfl (by decide) ?_
      refine zl_aload_n E dL_law_708 1 rfl ?_
      refine zl_aload_n E dL_law_709 0 rfl ?_
      refine zl_iload_n E dL_law_710 3 rfl ?_
      refine zl_iconst (v := 1) E dL_law_711 (by decide) ?_
      refine zl_iadd E dL_law_712 ?_
      refine zl_sld E h_1 e1 dL_law_713 ?_
      refine zl_call (st := []) E (ch_18 _ (List.mem_of_getElem? (l := wsL_law_r18) (i := 14) rfl)) cm_X6_years (c_X6_years B.2.1 P σ a1) g1 (rc_0 P) ⟨by decide, by decide⟩ rfl rfl (Nat.le_of_ble_eq_true rfl) dL_law_714 ?_
      refine zl_aload_n E dL_law_717 2 rfl ?_
      refine zl_aload_n E dL_law_718 0 rfl ?_
      refine zl_iload_n E dL_law_719 3 rfl ?_
      refine zl_iconst (v := 1) E dL_law_720 (by decide) ?_
      refine zl_iadd E dL_law_721 ?_
      refine zl_sld E h_1 e1 dL_law_722 ?_
      refine zl_call (st := [.int r]) E (ch_21 _ (List.mem_of_getElem? (l := wsL_law_r21) (i := 14) rfl)) cm_X7_years (c_X7_years B.2.1 P σ1 a1) g2 (rc_57 P) ⟨by decide, by decide⟩ rfl rfl (Nat.le_of_ble_eq_true rfl) dL_law_723 ?_
      refine zl_same (tgt := 1429) E dL_law_726 (by decide) ?_
      exact htail σ2 hI2
    by_cases c_17 : w = 17
    · obtain ⟨r, σ1, σ2, g1, g2, hI2⟩ := hst 17 (by decide) σ hI a1 a2 a3 a4 a5
      refine zl_tabIn (tgt := 731) E dL_law_33 c_17 (by decide) (by decide) rfl (by decide) ?_
      refine zl_aload_n E dL_law_731 1 rfl ?_
      refine zl_aload_n E dL_law_732 0 rfl ?_
      refine zl_iload_n E dL_law_733 3 rfl ?_
      refine zl_iconst (v := 1) E dL_law_734 (by decide) ?_
      refine zl_iadd E dL_law_735 ?_
      refine zl_sld E h_1 e1 dL_law_736 ?_
      refine zl_aload_n E dL_law_737 0 rfl ?_
      refine zl_iload_n E dL_law_738 3 rfl ?_
      refine zl_iconst (v := 2) E dL_law_739 (by decide) ?_
      refine zl_iadd E dL_law_740 ?_
      refine zl_sld E h_2 e2 dL_law_741 ?_
      refine zl_call (st := []) E (ch_23 _ (List.mem_of_getElem? (l := wsL_law_r23) (i := 18) rfl)) cm_X6_ahead (c_X6_ahead B.2.1 P σ a1 a2) g1 (rc_0 P) ⟨by decide, by decide⟩ rfl rfl (Nat.le_of_ble_eq_true rfl) dL_law_742 ?_
      refine zl_aload_n E dL_law_745 2 rfl ?_
      refine zl_aload_n E dL_law_746 0 rfl ?_
      refine zl_iload_n E dL_law_747 3 rfl ?_
      refine zl_iconst (v := 1) E dL_law_748 (by decide) ?_
      refine zl_iadd E dL_law_749 ?_
      refine zl_sld E h_1 e1 dL_law_750 ?_
      refine zl_aload_n E dL_law_751 0 rfl ?_
      refine zl_iload_n E dL_law_752 3 rfl ?_
      refine zl_iconst (v := 2) E dL_law_753 (by decide) ?_
      refine zl_iadd E dL_law_754 ?_
      refine zl_sld E h_2 e2 dL_law_755 ?_
      refine zl_call (st := [.int r]) E (ch_25 _ (List.mem_of_getElem? (l := wsL_law_r25) (i := 3) rfl)) cm_X7_ahead (c_X7_ahead B.2.1 P σ1 a1 a2) g2 (rc_57 P) ⟨by decide, by decide⟩ rfl rfl (Nat.le_of_ble_eq_true rfl) dL_law_756 ?_
      refine zl_same (tgt := 1429) E dL_law_759 (by decide) ?_
      exact htail σ2 hI2
    by_cases c_18 : w = 18
    · obtain ⟨r, σ1, σ2, g1, g2, hI2⟩ := hst 18 (by decide) σ hI a1 a2 a3 a4 a5
      refine zl_tabIn (tgt := 764) E dL_law_33 c_18 (by decide) (by decide) rfl (by decide) ?_
      refine zl_aload_n E dL_law_764 1 rfl ?_
      refine zl_aload_n E dL_law_765 0 rfl ?_
      refine zl_iload_n E dL_law_766 3 rfl ?_
      refine zl_iconst (v := 1) E dL_law_767 (by decide) ?_
      refine zl_iadd E dL_law_768 ?_
      refine zl_sld E h_1 e1 dL_law_769 ?_
      refine zl_call (st := []) E (ch_26 _ (List.mem_of_getElem? (l := wsL_law_r26) (i := 4) rfl)) cm_X6_shut (c_X6_shut B.2.1 P σ a1) g1 (rc_0 P) ⟨by decide, by decide⟩ rfl rfl (Nat.le_of_ble_eq_true rfl) dL_law_770 ?_
      refine zl_aload_n E dL_law_773 2 rfl ?_
      refine zl_aload_n E dL_law_774 0 rfl ?_
      refine zl_iload_n E dL_law_775 3 rfl ?_
      refine zl_iconst (v := 1) E dL_law_776 (by decide) ?_
      refine zl_iadd E dL_law_777 ?_
      refine zl_sld E h_1 e1 dL_law_778 ?_
      refine zl_call (st := [.int r]) E (ch_26 _ (List.mem_of_getElem? (l := wsL_law_r26) (i := 9) rfl)) cm_X7_shut (c_X7_shut B.2.1 P σ1 a1) g2 (rc_57 P) ⟨by decide, by decide⟩ rfl rfl (Nat.le_of_ble_eq_true rfl) dL_law_779 ?_
      refine zl_same (tgt := 1429) E dL_law_782 (by decide) ?_
      exact htail σ2 hI2
    by_cases c_19 : w = 19
    · obtain ⟨r, σ1, σ2, g1, g2, hI2⟩ := hst 19 (by decide) σ hI a1 a2 a3 a4 a5
      refine zl_tabIn (tgt := 787) E dL_law_33 c_19 (by decide) (by decide) rfl (by decide) ?_
      refine zl_aload_n E dL_law_787 1 rfl ?_
      refine zl_aload_n E dL_law_788 0 rfl ?_
      refine zl_iload_n E dL_law_789 3 rfl ?_
      refine zl_iconst (v := 1) E dL_law_790 (by decide) ?_
      refine zl_iadd E dL_law_791 ?_
      refine zl_sld E h_1 e1 dL_law_792 ?_
      refine zl_call (st := []) E (ch_26 _ (List.mem_of_getElem? (l := wsL_law_r26) (i := 18) rfl)) cm_X6_ends (c_X6_ends B.2.1 P σ a1) g1 (rc_0 P) ⟨by decide, by decide⟩ rfl rfl (Nat.le_of_ble_eq_true rfl) dL_law_793 ?_
      refine zl_aload_n E dL_law_796 2 rfl ?_
      refine zl_aload_n E dL_law_797 0 rfl ?_
      refine zl_iload_n E dL_law_798 3 rfl ?_
      refine zl_iconst (v := 1) E dL_law_799 (by decide) ?_
      refine zl_iadd E dL_law_800 ?_
      refine zl_sld E h_1 e1 dL_law_801 ?_
      refine zl_call (st := [.int r]) E (ch_26 _ (List.mem_of_getElem? (l := wsL_law_r26) (i := 23) rfl)) cm_X7_ends (c_X7_ends B.2.1 P σ1 a1) g2 (rc_57 P) ⟨by decide, by decide⟩ rfl rfl (Nat.le_of_ble_eq_true rfl) dL_law_802 ?_
      refine zl_same (tgt := 1429) E dL_law_805 (by decide) ?_
      exact htail σ2 hI2
    by_cases c_20 : w = 20
    · obtain ⟨r, σ1, σ2, g1, g2, hI2⟩ := hst 20 (by decide) σ hI a1 a2 a3 a4 a5
      refine zl_tabIn (tgt := 810) E dL_law_33 c_20 (by decide) (by decide) rfl (by decide) ?_
      refine zl_aload_n E dL_law_810 1 rfl ?_
      refine zl_aload_n E dL_law_811 0 rfl ?_
      refine zl_iload_n E dL_law_812 3 rfl ?_
      refine zl_iconst (v := 1) E dL_law_813 (by decide) ?_
      refine zl_iadd E dL_law_814 ?_
      refine zl_sld E h_1 e1 dL_law_815 ?_
      refine zl_call (st := []) E (ch_27 _ (List.mem_of_getElem? (l := wsL_law_r27) (i := 3) rfl)) cm_X6_choose (c_X6_choose B.2.1 P σ a1) g1 (rc_0 P) ⟨by decide, by decide⟩ rfl rfl (Nat.le_of_ble_eq_true rfl) dL_law_816 ?_
      refine zl_aload_n E dL_law_819 2 rfl ?_
      refine zl_aload_n E dL_law_820 0 rfl ?_
      refine zl_iload_n E dL_law_821 3 rfl ?_
      refine zl_iconst (v := 1) E dL_law_822 (by decide) ?_
      refine zl_iadd E dL_law_823 ?_
      refine zl_sld E h_1 e1 dL_law_824 ?_
      refine zl_call (st := [.int r]) E (ch_27 _ (List.mem_of_getElem? (l := wsL_law_r27) (i := 15) rfl)) cm_X7_choose (c_X7_choose B.2.1 P σ1 a1) g2 (rc_57 P) ⟨by decide, by decide⟩ rfl rfl (Nat.le_of_ble_eq_true rfl) dL_law_825 ?_
      refine zl_same (tgt := 1429) E dL_law_828 (by decide) ?_
      exact htail σ2 hI2
    by_cases c_21 : w = 21
    · obtain ⟨r, σ1, σ2, g1, g2, hI2⟩ := hst 21 (by decide) σ hI a1 a2 a3 a4 a5
      refine zl_tabIn (tgt := 833) E dL_law_33 c_21 (by decide) (by decide) rfl (by decide) ?_
      refine zl_aload_n E dL_law_833 1 rfl ?_
      refine zl_aload_n E dL_law_834 0 rfl ?_
      refine zl_iload_n E dL_law_835 3 rfl ?_
      refine zl_iconst (v := 1) E dL_law_836 (by decide) ?_
      refine zl_iadd E dL_law_837 ?_
      refine zl_sld E h_1 e1 dL_law_838 ?_
      refine zl_call (st := []) E (ch_28 _ (List.mem_of_getElem? (l := wsL_law_r28) (i := 3) rfl)) cm_X6_handsFor (c_X6_handsFor B.2.1 P σ a1) g1 (rc_0 P) ⟨by decide, by decide⟩ rfl rfl (Nat.le_of_ble_eq_true rfl) dL_law_839 ?_
      refine zl_aload_n E dL_law_842 2 rfl ?_
      refine zl_aload_n E dL_law_843 0 rfl ?_
      refine zl_iload_n E dL_law_844 3 rfl ?_
      refine zl_iconst (v := 1) E dL_law_845 (by decide) ?_
      refine zl_iadd E dL_law_846 ?_
      refine zl_sld E h_1 e1 dL_law_847 ?_
      refine zl_call (st := [.int r]) E (ch_28 _ (List.mem_of_getElem? (l := wsL_law_r28) (i := 7) rfl)) cm_X7_handsFor (c_X7_handsFor B.2.1 P σ1 a1) g2 (rc_57 P) ⟨by decide, by decide⟩ rfl rfl (Nat.le_of_ble_eq_true rfl) dL_law_848 ?_
      refine zl_same (tgt := 1429) E dL_law_851 (by decide) ?_
      exact htail σ2 hI2
    by_cases c_22 : w = 22
    · obtain ⟨r, σ1, σ2, g1, g2, hI2⟩ := hst 22 (by decide) σ hI a1 a2 a3 a4 a5
      refine zl_tabIn (tgt := 856) E dL_law_33 c_22 (by decide) (by decide) rfl (by decide) ?_
      refine zl_aload_n E dL_law_856 1 rfl ?_
      refine zl_aload_n E dL_law_857 0 rfl ?_
      refine zl_iload_n E dL_law_858 3 rfl ?_
      refine zl_iconst (v := 1) E dL_law_859 (by decide) ?_
      refine zl_iadd E dL_law_860 ?_
      refine zl_sld E h_1 e1 dL_law_861 ?_
      refine zl_call (st := []) E (ch_28 _ (List.mem_of_getElem? (l := wsL_law_r28) (i := 11) rfl)) cm_X6_most (c_X6_most B.2.1 P σ a1) g1 (rc_0 P) ⟨by decide, by decide⟩ rfl rfl (Nat.le_of_ble_eq_true rfl) dL_law_862 ?_
      refine zl_aload_n E dL_law_865 2 rfl ?_
      refine zl_aload_n E dL_law_866 0 rfl ?_
      refine zl_iload_n E dL_law_867 3 rfl ?_
      refine zl_iconst (v := 1) E dL_law_868 (by decide) ?_
      refine zl_iadd E dL_law_869 ?_
      refine zl_sld E h_1 e1 dL_law_870 ?_
      refine zl_call (st := [.int r]) E (ch_31 _ (List.mem_of_getElem? (l := wsL_law_r31) (i := 2) rfl)) cm_X7_most (c_X7_most B.2.1 P σ1 a1) g2 (rc_57 P) ⟨by decide, by decide⟩ rfl rfl (Nat.le_of_ble_eq_true rfl) dL_law_871 ?_
      refine zl_same (tgt := 1429) E dL_law_874 (by decide) ?_
      exact htail σ2 hI2
    by_cases c_23 : w = 23
    · obtain ⟨r, σ1, σ2, g1, g2, hI2⟩ := hst 23 (by decide) σ hI a1 a2 a3 a4 a5
      refine zl_tabIn (tgt := 879) E dL_law_33 c_23 (by decide) (by decide) rfl (by decide) ?_
      refine zl_aload_n E dL_law_879 1 rfl ?_
      refine zl_aload_n E dL_law_880 0 rfl ?_
      refine zl_iload_n E dL_law_881 3 rfl ?_
      refine zl_iconst (v := 1) E dL_law_882 (by decide) ?_
      refine zl_iadd E dL_law_883 ?_
      refine zl_sld E h_1 e1 dL_law_884 ?_
      refine zl_call (st := []) E (ch_32 _ (List.mem_of_getElem? (l := wsL_law_r32) (i := 0) rfl)) cm_X6_give (c_X6_give B.2.1 P σ a1) g1 (rc_0 P) ⟨by decide, by decide⟩ rfl rfl (Nat.le_of_ble_eq_true rfl) dL_law_885 ?_
      refine zl_aload_n E dL_law_888 2 rfl ?_
      refine zl_aload_n E dL_law_889 0 rfl ?_
      refine zl_iload_n E dL_law_890 3 rfl ?_
      refine zl_iconst (v := 1) E dL_law_891 (by decide) ?_
      refine zl_iadd E dL_law_892 ?_
      refine zl_sld E h_1 e1 dL_law_893 ?_
      refine zl_call (st := [.int r]) E (ch_32 _ (List.mem_of_getElem? (l := wsL_law_r32) (i := 8) rfl)) cm_X7_give (c_X7_give B.2.1 P σ1 a1) g2 (rc_57 P) ⟨by decide, by decide⟩ rfl rfl (Nat.le_of_ble_eq_true rfl) dL_law_894 ?_
      refine zl_same (tgt := 1429) E dL_law_897 (by decide) ?_
      exact htail σ2 hI2
    by_cases c_24 : w = 24
    · obtain ⟨r, σ1, σ2, g1, g2, hI2⟩ := hst 24 (by decide) σ hI a1 a2 a3 a4 a5
      refine zl_tabIn (tgt := 902) E dL_law_33 c_24 (by decide) (by decide) rfl (by decide) ?_
      refine zl_aload_n E dL_law_902 1 rfl ?_
      refine zl_aload_n E dL_law_903 0 rfl ?_
      refine zl_iload_n E dL_law_904 3 rfl ?_
      refine zl_iconst (v := 1) E dL_law_905 (by decide) ?_
      refine zl_iadd E dL_law_906 ?_
      refine zl_sld E h_1 e1 dL_law_907 ?_
      refine zl_aload_n E dL_law_908 0 rfl ?_
      refine zl_iload_n E dL_law_909 3 rfl ?_
      refine zl_iconst (v := 2) E dL_law_910 (by decide) ?_
      refine zl_iadd E dL_law_911 ?_
      refine zl_sld E h_2 e2 dL_law_912 ?_
      refine zl_call (st := []) E (ch_32 _ (List.mem_of_getElem? (l := wsL_law_r32) (i := 12) rfl)) cm_X6_lives (c_X6_lives B.2.1 P σ a1 a2) g1 (rc_0 P) ⟨by decide, by decide⟩ rfl rfl (Nat.le_of_ble_eq_true rfl) dL_law_913 ?_
      refine zl_aload_n E dL_law_916 2 rfl ?_
      refine zl_aload_n E dL_law_917 0 rfl ?_
      refine zl_iload_n E dL_law_918 3 rfl ?_
      refine zl_iconst (v := 1) E dL_law_919 (by decide) ?_
      refine zl_iadd E dL_law_920 ?_
      refine zl_sld E h_1 e1 dL_law_921 ?_
      refine zl_aload_n E dL_law_922 0 rfl ?_
      refine zl_iload_n E dL_law_923 3 rfl ?_
      refine zl_iconst (v := 2) E dL_law_924 (by decide) ?_
      refine zl_iadd E dL_law_925 ?_
      refine zl_sld E h_2 e2 dL_law_926 ?_
      refine zl_call (st := [.int r]) E (ch_32 _ (List.mem_of_getElem? (l := wsL_law_r32) (i := 16) rfl)) cm_X7_lives (c_X7_lives B.2.1 P σ1 a1 a2) g2 (rc_57 P) ⟨by decide, by decide⟩ rfl rfl (Nat.le_of_ble_eq_true rfl) dL_law_927 ?_
      refine zl_same (tgt := 1429) E dL_law_930 (by decide) ?_
      exact htail σ2 hI2
    by_cases c_25 : w = 25
    · obtain ⟨r, σ1, σ2, g1, g2, hI2⟩ := hst 25 (by decide) σ hI a1 a2 a3 a4 a5
      refine zl_tabIn (tgt := 935) E dL_law_33 c_25 (by decide) (by decide) rfl (by decide) ?_
      refine zl_aload_n E dL_law_935 1 rfl ?_
      refine zl_aload_n E dL_law_936 0 rfl ?_
      refine zl_iload_n E dL_law_937 3 rfl ?_
      refine zl_iconst (v := 1) E dL_law_938 (by decide) ?_
      refine zl_iadd E dL_law_939 ?_
      refine zl_sld E h_1 e1 dL_law_940 ?_
      refine zl_call (st := []) E (ch_32 _ (List.mem_of_getElem? (l := wsL_law_r32) (i := 20) rfl)) cm_X6_best (c_X6_best B.2.1 P σ a1) g1 (rc_0 P) ⟨by decide, by decide⟩ rfl rfl (Nat.le_of_ble_eq_true rfl) dL_law_941 ?_
      refine zl_aload_n E dL_law_944 2 rfl ?_
      refine zl_aload_n E dL_law_945 0 rfl ?_
      refine zl_iload_n E dL_law_946 3 rfl ?_
      refine zl_iconst (v := 1) E dL_law_947 (by decide) ?_
      refine zl_iadd E dL_law_948 ?_
      refine zl_sld E h_1 e1 dL_law_949 ?_
      refine zl_call (st := [.int r]) E (ch_33 _ (List.mem_of_getElem? (l := wsL_law_r33) (i := 0) rfl)) cm_X7_best (c_X7_best B.2.1 P σ1 a1) g2 (rc_57 P) ⟨by decide, by decide⟩ rfl rfl (Nat.le_of_ble_eq_true rfl) dL_law_950 ?_
      refine zl_same (tgt := 1429) E dL_law_953 (by decide) ?_
      exact htail σ2 hI2
    by_cases c_26 : w = 26
    · obtain ⟨r, σ1, σ2, g1, g2, hI2⟩ := hst 26 (by decide) σ hI a1 a2 a3 a4 a5
      refine zl_tabIn (tgt := 958) E dL_law_33 c_26 (by decide) (by decide) rfl (by decide) ?_
      refine zl_aload_n E dL_law_958 1 rfl ?_
      refine zl_aload_n E dL_law_959 0 rfl ?_
      refine zl_iload_n E dL_law_960 3 rfl ?_
      refine zl_iconst (v := 1) E dL_law_961 (by decide) ?_
      refine zl_iadd E dL_law_962 ?_
      refine zl_sld E h_1 e1 dL_law_963 ?_
      refine zl_aload_n E dL_law_964 0 rfl ?_
      refine zl_iload_n E dL_law_965 3 rfl ?_
      refine zl_iconst (v := 2) E dL_law_966 (by decide) ?_
      refine zl_iadd E dL_law_967 ?_
      refine zl_sld E h_2 e2 dL_law_968 ?_
      refine zl_call (st := []) E (ch_33 _ (List.mem_of_getElem? (l := wsL_law_r33) (i := 8) rfl)) cm_X6_whom (c_X6_whom B.2.1 P σ a1 a2) g1 (rc_0 P) ⟨by decide, by decide⟩ rfl rfl (Nat.le_of_ble_eq_true rfl) dL_law_969 ?_
      refine zl_aload_n E dL_law_972 2 rfl ?_
      refine zl_aload_n E dL_law_973 0 rfl ?_
      refine zl_iload_n E dL_law_974 3 rfl ?_
      refine zl_iconst (v := 1) E dL_law_975 (by decide) ?_
      refine zl_iadd E dL_law_976 ?_
      refine zl_sld E h_1 e1 dL_law_977 ?_
      refine zl_aload_n E dL_law_978 0 rfl ?_
      refine zl_iload_n E dL_law_979 3 rfl ?_
      refine zl_iconst (v := 2) E dL_law_980 (by decide) ?_
      refine zl_iadd E dL_law_981 ?_
      refine zl_sld E h_2 e2 dL_law_982 ?_
      refine zl_call (st := [.int r]) E (ch_33 _ (List.mem_of_getElem? (l := wsL_law_r33) (i := 12) rfl)) cm_X7_whom (c_X7_whom B.2.1 P σ1 a1 a2) g2 (rc_57 P) ⟨by decide, by decide⟩ rfl rfl (Nat.le_of_ble_eq_true rfl) dL_law_983 ?_
      refine zl_same (tgt := 1429) E dL_law_986 (by decide) ?_
      exact htail σ2 hI2
    by_cases c_27 : w = 27
    · obtain ⟨r, σ1, σ2, g1, g2, hI2⟩ := hst 27 (by decide) σ hI a1 a2 a3 a4 a5
      refine zl_tabIn (tgt := 991) E dL_law_33 c_27 (by decide) (by decide) rfl (by decide) ?_
      refine zl_aload_n E dL_law_991 1 rfl ?_
      refine zl_aload_n E dL_law_992 0 rfl ?_
      refine zl_iload_n E dL_law_993 3 rfl ?_
      refine zl_iconst (v := 1) E dL_law_994 (by decide) ?_
      refine zl_iadd E dL_law_995 ?_
      refine zl_sld E h_1 e1 dL_law_996 ?_
      refine zl_call (st := []) E (ch_33 _ (List.mem_of_getElem? (l := wsL_law_r33) (i := 16) rfl)) cm_X6_seed (c_X6_seed B.2.1 P σ a1) g1 (rc_0 P) ⟨by decide, by decide⟩ rfl rfl (Nat.le_of_ble_eq_true rfl) dL_law_997 ?_
      refine zl_aload_n E dL_law_1000 2 rfl ?_
      refine zl_aload_n E dL_law_1001 0 rfl ?_
      refine zl_iload_n E dL_law_1002 3 rfl ?_
      refine zl_iconst (v := 1) E dL_law_1003 (by decide) ?_
      refine zl_iadd E dL_law_1004 ?_
      refine zl_sld E h_1 e1 dL_law_1005 ?_
      refine zl_call (st := [.int r]) E (ch_33 _ (List.mem_of_getElem? (l := wsL_law_r33) (i := 21) rfl)) cm_X7_seed (c_X7_seed B.2.1 P σ1 a1) g2 (rc_57 P) ⟨by decide, by decide⟩ rfl rfl (Nat.le_of_ble_eq_true rfl) dL_law_1006 ?_
      refine zl_same (tgt := 1429) E dL_law_1009 (by decide) ?_
      exact htail σ2 hI2
    by_cases c_28 : w = 28
    · obtain ⟨r, σ1, σ2, g1, g2, hI2⟩ := hst 28 (by decide) σ hI a1 a2 a3 a4 a5
      refine zl_tabIn (tgt := 1014) E dL_law_33 c_28 (by decide) (by decide) rfl (by decide) ?_
      refine zl_aload_n E dL_law_1014 1 rfl ?_
      refine zl_aload_n E dL_law_1015 0 rfl ?_
      refine zl_iload_n E dL_law_1016 3 rfl ?_
      refine zl_iconst (v := 1) E dL_law_1017 (by decide) ?_
      refine zl_iadd E dL_law_1018 ?_
      refine zl_sld E h_1 e1 dL_law_1019 ?_
      refine zl_aload_n E dL_law_1020 0 rfl ?_
      refine zl_iload_n E dL_law_1021 3 rfl ?_
      refine zl_iconst (v := 2) E dL_law_1022 (by decide) ?_
      refine zl_iadd E dL_law_1023 ?_
      refine zl_sld E h_2 e2 dL_law_1024 ?_
      refine zl_call (st := []) E (ch_34 _ (List.mem_of_getElem? (l := wsL_law_r34) (i := 1) rfl)) cm_X6_feed (c_X6_feed B.2.1 P σ a1 a2) g1 (rc_0 P) ⟨by decide, by decide⟩ rfl rfl (Nat.le_of_ble_eq_true rfl) dL_law_1025 ?_
      refine zl_aload_n E dL_law_1028 2 rfl ?_
      refine zl_aload_n E dL_law_1029 0 rfl ?_
      refine zl_iload_n E dL_law_1030 3 rfl ?_
      refine zl_iconst (v := 1) E dL_law_1031 (by decide) ?_
      refine zl_iadd E dL_law_1032 ?_
      refine zl_sld E h_1 e1 dL_law_1033 ?_
      refine zl_aload_n E dL_law_1034 0 rfl ?_
      refine zl_iload_n E dL_law_1035 3 rfl ?_
      refine zl_iconst (v := 2) E dL_law_1036 (by decide) ?_
      refine zl_iadd E dL_law_1037 ?_
      refine zl_sld E h_2 e2 dL_law_1038 ?_
      refine zl_call (st := [.int r]) E (ch_34 _ (List.mem_of_getElem? (l := wsL_law_r34) (i := 14) rfl)) cm_X7_feed (c_X7_feed B.2.1 P σ1 a1 a2) g2 (rc_57 P) ⟨by decide, by decide⟩ rfl rfl (Nat.le_of_ble_eq_true rfl) dL_law_1039 ?_
      refine zl_same (tgt := 1429) E dL_law_1042 (by decide) ?_
      exact htail σ2 hI2
    by_cases c_29 : w = 29
    · obtain ⟨r, σ1, σ2, g1, g2, hI2⟩ := hst 29 (by decide) σ hI a1 a2 a3 a4 a5
      refine zl_tabIn (tgt := 1047) E dL_law_33 c_29 (by decide) (by decide) rfl (by decide) ?_
      refine zl_aload_n E dL_law_1047 1 rfl ?_
      refine zl_call (st := []) E (ch_34 _ (List.mem_of_getElem? (l := wsL_law_r34) (i := 19) rfl)) cm_X6_wipe (c_X6_wipe B.2.1 P σ) g1 (rc_0 P) ⟨by decide, by decide⟩ rfl rfl (Nat.le_of_ble_eq_true rfl) dL_law_1048 ?_
      refine zl_aload_n E dL_law_1051 2 rfl ?_
      refine zl_call (st := [.int r]) E (ch_35 _ (List.mem_of_getElem? (l := wsL_law_r35) (i := 3) rfl)) cm_X7_wipe (c_X7_wipe B.2.1 P σ1) g2 (rc_57 P) ⟨by decide, by decide⟩ rfl rfl (Nat.le_of_ble_eq_true rfl) dL_law_1052 ?_
      refine zl_same (tgt := 1429) E dL_law_1055 (by decide) ?_
      exact htail σ2 hI2
    by_cases c_30 : w = 30
    · obtain ⟨r, σ1, σ2, g1, g2, hI2⟩ := hst 30 (by decide) σ hI a1 a2 a3 a4 a5
      refine zl_tabIn (tgt := 1060) E dL_law_33 c_30 (by decide) (by decide) rfl (by decide) ?_
      refine zl_aload_n E dL_law_1060 1 rfl ?_
      refine zl_call (st := []) E (ch_35 _ (List.mem_of_getElem? (l := wsL_law_r35) (i := 7) rfl)) cm_X6_text (c_X6_text B.2.1 P σ) g1 (rc_0 P) ⟨by decide, by decide⟩ rfl rfl (Nat.le_of_ble_eq_true rfl) dL_law_1061 ?_
      refine zl_aload_n E dL_law_1064 2 rfl ?_
      refine zl_call (st := [.int r]) E (ch_40 _ (List.mem_of_getElem? (l := wsL_law_r40) (i := 3) rfl)) cm_X7_text (c_X7_text B.2.1 P σ1) g2 (rc_57 P) ⟨by decide, by decide⟩ rfl rfl (Nat.le_of_ble_eq_true rfl) dL_law_1065 ?_
      refine zl_same (tgt := 1429) E dL_law_1068 (by decide) ?_
      exact htail σ2 hI2
    by_cases c_31 : w = 31
    · obtain ⟨r, σ1, σ2, g1, g2, hI2⟩ := hst 31 (by decide) σ hI a1 a2 a3 a4 a5
      refine zl_tabIn (tgt := 1073) E dL_law_33 c_31 (by decide) (by decide) rfl (by decide) ?_
      refine zl_aload_n E dL_law_1073 1 rfl ?_
      refine zl_aload_n E dL_law_1074 0 rfl ?_
      refine zl_iload_n E dL_law_1075 3 rfl ?_
      refine zl_iconst (v := 1) E dL_law_1076 (by decide) ?_
      refine zl_iadd E dL_law_1077 ?_
      refine zl_sld E h_1 e1 dL_law_1078 ?_
      refine zl_aload_n E dL_law_1079 0 rfl ?_
      refine zl_iload_n E dL_law_1080 3 rfl ?_
      refine zl_iconst (v := 2) E dL_law_1081 (by decide) ?_
      refine zl_iadd E dL_law_1082 ?_
      refine zl_sld E h_2 e2 dL_law_1083 ?_
      refine zl_call (st := []) E (ch_42 _ (List.mem_of_getElem? (l := wsL_law_r42) (i := 14) rfl)) cm_X6_hold (c_X6_hold B.2.1 P σ a1 a2) g1 (rc_0 P) ⟨by decide, by decide⟩ rfl rfl (Nat.le_of_ble_eq_true rfl) dL_law_1084 ?_
      refine zl_aload_n E dL_law_1087 2 rfl ?_
      refine zl_aload_n E dL_law_1088 0 rfl ?_
      refine zl_iload_n E dL_law_1089 3 rfl ?_
      refine zl_iconst (v := 1) E dL_law_1090 (by decide) ?_
      refine zl_iadd E dL_law_1091 ?_
      refine zl_sld E h_1 e1 dL_law_1092 ?_
      refine zl_aload_n E dL_law_1093 0 rfl ?_
      refine zl_iload_n E dL_law_1094 3 rfl ?_
      refine zl_iconst (v := 2) E dL_law_1095 (by decide) ?_
      refine zl_iadd E dL_law_1096 ?_
      refine zl_sld E h_2 e2 dL_law_1097 ?_
      refine zl_call (st := [.int r]) E (ch_42 _ (List.mem_of_getElem? (l := wsL_law_r42) (i := 19) rfl)) cm_X7_hold (c_X7_hold B.2.1 P σ1 a1 a2) g2 (rc_57 P) ⟨by decide, by decide⟩ rfl rfl (Nat.le_of_ble_eq_true rfl) dL_law_1098 ?_
      refine zl_same (tgt := 1429) E dL_law_1101 (by decide) ?_
      exact htail σ2 hI2
    by_cases c_32 : w = 32
    · obtain ⟨r, σ1, σ2, g1, g2, hI2⟩ := hst 32 (by decide) σ hI a1 a2 a3 a4 a5
      refine zl_tabIn (tgt := 1106) E dL_law_33 c_32 (by decide) (by decide) rfl (by decide) ?_
      refine zl_aload_n E dL_law_1106 1 rfl ?_
      refine zl_aload_n E dL_law_1107 0 rfl ?_
      refine zl_iload_n E dL_law_1108 3 rfl ?_
      refine zl_iconst (v := 1) E dL_law_1109 (by decide) ?_
      refine zl_iadd E dL_law_1110 ?_
      refine zl_sld E h_1 e1 dL_law_1111 ?_
      refine zl_aload_n E dL_law_1112 0 rfl ?_
      refine zl_iload_n E dL_law_1113 3 rfl ?_
      refine zl_iconst (v := 2) E dL_law_1114 (by decide) ?_
      refine zl_iadd E dL_law_1115 ?_
      refine zl_sld E h_2 e2 dL_law_1116 ?_
      refine zl_call (st := []) E (ch_42 _ (List.mem_of_getElem? (l := wsL_law_r42) (i := 23) rfl)) cm_X6_as (c_X6_as B.2.1 P σ a1 a2) g1 (rc_0 P) ⟨by decide, by decide⟩ rfl rfl (Nat.le_of_ble_eq_true rfl) dL_law_1117 ?_
      refine zl_aload_n E dL_law_1120 2 rfl ?_
      refine zl_aload_n E dL_law_1121 0 rfl ?_
      refine zl_iload_n E dL_law_1122 3 rfl ?_
      refine zl_iconst (v := 1) E dL_law_1123 (by decide) ?_
      refine zl_iadd E dL_law_1124 ?_
      refine zl_sld E h_1 e1 dL_law_1125 ?_
      refine zl_aload_n E dL_law_1126 0 rfl ?_
      refine zl_iload_n E dL_law_1127 3 rfl ?_
      refine zl_iconst (v := 2) E dL_law_1128 (by decide) ?_
      refine zl_iadd E dL_law_1129 ?_
      refine zl_sld E h_2 e2 dL_law_1130 ?_
      refine zl_call (st := [.int r]) E (ch_43 _ (List.mem_of_getElem? (l := wsL_law_r43) (i := 6) rfl)) cm_X7_as (c_X7_as B.2.1 P σ1 a1 a2) g2 (rc_57 P) ⟨by decide, by decide⟩ rfl rfl (Nat.le_of_ble_eq_true rfl) dL_law_1131 ?_
      refine zl_same (tgt := 1429) E dL_law_1134 (by decide) ?_
      exact htail σ2 hI2
    by_cases c_33 : w = 33
    · obtain ⟨r, σ1, σ2, g1, g2, hI2⟩ := hst 33 (by decide) σ hI a1 a2 a3 a4 a5
      refine zl_tabIn (tgt := 1139) E dL_law_33 c_33 (by decide) (by decide) rfl (by decide) ?_
      refine zl_aload_n E dL_law_1139 1 rfl ?_
      refine zl_aload_n E dL_law_1140 0 rfl ?_
      refine zl_iload_n E dL_law_1141 3 rfl ?_
      refine zl_iconst (v := 1) E dL_law_1142 (by decide) ?_
      refine zl_iadd E dL_law_1143 ?_
      refine zl_sld E h_1 e1 dL_law_1144 ?_
      refine zl_aload_n E dL_law_1145 0 rfl ?_
      refine zl_iload_n E dL_law_1146 3 rfl ?_
      refine zl_iconst (v := 2) E dL_law_1147 (by decide) ?_
      refine zl_iadd E dL_law_1148 ?_
      refine zl_sld E h_2 e2 dL_law_1149 ?_
      refine zl_aload_n E dL_law_1150 0 rfl ?_
      refine zl_iload_n E dL_law_1151 3 rfl ?_
      refine zl_iconst (v := 3) E dL_law_1152 (by decide) ?_
      refine zl_iadd E dL_law_1153 ?_
      refine zl_sld E h_3 e3 dL_law_1154 ?_
      refine zl_call (st := []) E (ch_43 _ (List.mem_of_getElem? (l := wsL_law_r43) (i := 15) rfl)) cm_X6_sheet (c_X6_sheet B.2.1 P σ a1 a2 a3) g1 (rc_0 P) ⟨by decide, by decide⟩ rfl rfl (Nat.le_of_ble_eq_true rfl) dL_law_1155 ?_
      refine zl_aload_n E dL_law_1158 2 rfl ?_
      refine zl_aload_n E dL_law_1159 0 rfl ?_
      refine zl_iload_n E dL_law_1160 3 rfl ?_
      refine zl_iconst (v := 1) E dL_law_1161 (by decide) ?_
      refine zl_iadd E dL_law_1162 ?_
      refine zl_sld E h_1 e1 dL_law_1163 ?_
      refine zl_aload_n E dL_law_1164 0 rfl ?_
      refine zl_iload_n E dL_law_1165 3 rfl ?_
      refine zl_iconst (v := 2) E dL_law_1166 (by decide) ?_
      refine zl_iadd E dL_law_1167 ?_
      refine zl_sld E h_2 e2 dL_law_1168 ?_
      refine zl_aload_n E dL_law_1169 0 rfl ?_
      refine zl_iload_n E dL_law_1170 3 rfl ?_
      refine zl_iconst (v := 3) E dL_law_1171 (by decide) ?_
      refine zl_iadd E dL_law_1172 ?_
      refine zl_sld E h_3 e3 dL_law_1173 ?_
      refine zl_call (st := [.int r]) E (ch_44 _ (List.mem_of_getElem? (l := wsL_law_r44) (i := 5) rfl)) cm_X7_sheet (c_X7_sheet B.2.1 P σ1 a1 a2 a3) g2 (rc_57 P) ⟨by decide, by decide⟩ rfl rfl (Nat.le_of_ble_eq_true rfl) dL_law_1174 ?_
      refine zl_same (tgt := 1429) E dL_law_1177 (by decide) ?_
      exact htail σ2 hI2
    by_cases c_34 : w = 34
    · obtain ⟨r, σ1, σ2, g1, g2, hI2⟩ := hst 34 (by decide) σ hI a1 a2 a3 a4 a5
      refine zl_tabIn (tgt := 1182) E dL_law_33 c_34 (by decide) (by decide) rfl (by decide) ?_
      refine zl_aload_n E dL_law_1182 1 rfl ?_
      refine zl_aload_n E dL_law_1183 0 rfl ?_
      refine zl_iload_n E dL_law_1184 3 rfl ?_
      refine zl_iconst (v := 1) E dL_law_1185 (by decide) ?_
      refine zl_iadd E dL_law_1186 ?_
      refine zl_sld E h_1 e1 dL_law_1187 ?_
      refine zl_aload_n E dL_law_1188 0 rfl ?_
      refine zl_iload_n E dL_law_1189 3 rfl ?_
      refine zl_iconst (v := 2) E dL_law_1190 (by decide) ?_
      refine zl_iadd E dL_law_1191 ?_
      refine zl_sld E h_2 e2 dL_law_1192 ?_
      refine zl_aload_n E dL_law_1193 0 rfl ?_
      refine zl_iload_n E dL_law_1194 3 rfl ?_
      refine zl_iconst (v := 3) E dL_law_1195 (by decide) ?_
      refine zl_iadd E dL_law_1196 ?_
      refine zl_sld E h_3 e3 dL_law_1197 ?_
      refine zl_call (st := []) E (ch_44 _ (List.mem_of_getElem? (l := wsL_law_r44) (i := 12) rfl)) cm_X6_write (c_X6_write B.2.1 P σ a1 a2 a3) g1 (rc_0 P) ⟨by decide, by decide⟩ rfl rfl (Nat.le_of_ble_eq_true rfl) dL_law_1198 ?_
      refine zl_aload_n E dL_law_1201 2 rfl ?_
      refine zl_aload_n E dL_law_1202 0 rfl ?_
      refine zl_iload_n E dL_law_1203 3 rfl ?_
      refine zl_iconst (v := 1) E dL_law_1204 (by decide) ?_
      refine zl_iadd E dL_law_1205 ?_
      refine zl_sld E h_1 e1 dL_law_1206 ?_
      refine zl_aload_n E dL_law_1207 0 rfl ?_
      refine zl_iload_n E dL_law_1208 3 rfl ?_
      refine zl_iconst (v := 2) E dL_law_1209 (by decide) ?_
      refine zl_iadd E dL_law_1210 ?_
      refine zl_sld E h_2 e2 dL_law_1211 ?_
      refine zl_aload_n E dL_law_1212 0 rfl ?_
      refine zl_iload_n E dL_law_1213 3 rfl ?_
      refine zl_iconst (v := 3) E dL_law_1214 (by decide) ?_
      refine zl_iadd E dL_law_1215 ?_
      refine zl_sld E h_3 e3 dL_law_1216 ?_
      refine zl_call (st := [.int r]) E (ch_45 _ (List.mem_of_getElem? (l := wsL_law_r45) (i := 1) rfl)) cm_X7_write (c_X7_write B.2.1 P σ1 a1 a2 a3) g2 (rc_57 P) ⟨by decide, by decide⟩ rfl rfl (Nat.le_of_ble_eq_true rfl) dL_law_1217 ?_
      refine zl_same (tgt := 1429) E dL_law_1220 (by decide) ?_
      exact htail σ2 hI2
    by_cases c_35 : w = 35
    · obtain ⟨r, σ1, σ2, g1, g2, hI2⟩ := hst 35 (by decide) σ hI a1 a2 a3 a4 a5
      refine zl_tabIn (tgt := 1225) E dL_law_33 c_35 (by decide) (by decide) rfl (by decide) ?_
      refine zl_aload_n E dL_law_1225 1 rfl ?_
      refine zl_aload_n E dL_law_1226 0 rfl ?_
      refine zl_iload_n E dL_law_1227 3 rfl ?_
      refine zl_iconst (v := 1) E dL_law_1228 (by decide) ?_
      refine zl_iadd E dL_law_1229 ?_
      refine zl_sld E h_1 e1 dL_law_1230 ?_
      refine zl_aload_n E dL_law_1231 0 rfl ?_
      refine zl_iload_n E dL_law_1232 3 rfl ?_
      refine zl_iconst (v := 2) E dL_law_1233 (by decide) ?_
      refine zl_iadd E dL_law_1234 ?_
      refine zl_sld E h_2 e2 dL_law_1235 ?_
      refine zl_aload_n E dL_law_1236 0 rfl ?_
      refine zl_iload_n E dL_law_1237 3 rfl ?_
      refine zl_iconst (v := 3) E dL_law_1238 (by decide) ?_
      refine zl_iadd E dL_law_1239 ?_
      refine zl_sld E h_3 e3 dL_law_1240 ?_
      refine zl_aload_n E dL_law_1241 0 rfl ?_
      refine zl_iload_n E dL_law_1242 3 rfl ?_
      refine zl_iconst (v := 4) E dL_law_1243 (by decide) ?_
      refine zl_iadd E dL_law_1244 ?_
      refine zl_sld E h_4 e4 dL_law_1245 ?_
      refine zl_aload_n E dL_law_1246 0 rfl ?_
      refine zl_iload_n E dL_law_1247 3 rfl ?_
      refine zl_iconst (v := 5) E dL_law_1248 (by decide) ?_
      refine zl_iadd E dL_law_1249 ?_
      refine zl_sld E h_5 e5 dL_law_1250 ?_
      refine zl_call (st := []) E (ch_45 _ (List.mem_of_getElem? (l := wsL_law_r45) (i := 5) rfl)) cm_X6_copy (c_X6_copy B.2.1 P σ a1 a2 a3 a4 a5) g1 (rc_0 P) ⟨by decide, by decide⟩ rfl rfl (Nat.le_of_ble_eq_true rfl) dL_law_1251 ?_
      refine zl_aload_n E dL_law_1254 2 rfl ?_
      refine zl_aload_n E dL_law_1255 0 rfl ?_
      refine zl_iload_n E dL_law_1256 3 rfl ?_
      refine zl_iconst (v := 1) E dL_law_1257 (by decide) ?_
      refine zl_iadd E dL_law_1258 ?_
      refine zl_sld E h_1 e1 dL_law_1259 ?_
      refine zl_aload_n E dL_law_1260 0 rfl ?_
      refine zl_iload_n E dL_law_1261 3 rfl ?_
      refine zl_iconst (v := 2) E dL_law_1262 (by decide) ?_
      refine zl_iadd E dL_law_1263 ?_
      refine zl_sld E h_2 e2 dL_law_1264 ?_
      refine zl_aload_n E dL_law_1265 0 rfl ?_
      refine zl_iload_n E dL_law_1266 3 rfl ?_
      refine zl_iconst (v := 3) E dL_law_1267 (by decide) ?_
      refine zl_iadd E dL_law_1268 ?_
      refine zl_sld E h_3 e3 dL_law_1269 ?_
      refine zl_aload_n E dL_law_1270 0 rfl ?_
      refine zl_iload_n E dL_law_1271 3 rfl ?_
      refine zl_iconst (v := 4) E dL_law_1272 (by decide) ?_
      refine zl_iadd E dL_law_1273 ?_
      refine zl_sld E h_4 e4 dL_law_1274 ?_
      refine zl_aload_n E dL_law_1275 0 rfl ?_
      refine zl_iload_n E dL_law_1276 3 rfl ?_
      refine zl_iconst (v := 5) E dL_law_1277 (by decide) ?_
      refine zl_iadd E dL_law_1278 ?_
      refine zl_sld E h_5 e5 dL_law_1279 ?_
      refine zl_call (st := [.int r]) E (ch_45 _ (List.mem_of_getElem? (l := wsL_law_r45) (i := 16) rfl)) cm_X7_copy (c_X7_copy B.2.1 P σ1 a1 a2 a3 a4 a5) g2 (rc_57 P) ⟨by decide, by decide⟩ rfl rfl (Nat.le_of_ble_eq_true rfl) dL_law_1280 ?_
      refine zl_same (tgt := 1429) E dL_law_1283 (by decide) ?_
      exact htail σ2 hI2
    by_cases c_36 : w = 36
    · obtain ⟨r, σ1, σ2, g1, g2, hI2⟩ := hst 36 (by decide) σ hI a1 a2 a3 a4 a5
      refine zl_tabIn (tgt := 1288) E dL_law_33 c_36 (by decide) (by decide) rfl (by decide) ?_
      refine zl_aload_n E dL_law_1288 1 rfl ?_
      refine zl_aload_n E dL_law_1289 0 rfl ?_
      refine zl_iload_n E dL_law_1290 3 rfl ?_
      refine zl_iconst (v := 1) E dL_law_1291 (by decide) ?_
      refine zl_iadd E dL_law_1292 ?_
      refine zl_sld E h_1 e1 dL_law_1293 ?_
      refine zl_call (st := []) E (ch_45 _ (List.mem_of_getElem? (l := wsL_law_r45) (i := 20) rfl)) cm_X6_load (c_X6_load B.2.1 P σ a1) g1 (rc_0 P) ⟨by decide, by decide⟩ rfl rfl (Nat.le_of_ble_eq_true rfl) dL_law_1294 ?_
      refine zl_aload_n E dL_law_1297 2 rfl ?_
      refine zl_aload_n E dL_law_1298 0 rfl ?_
      refine zl_iload_n E dL_law_1299 3 rfl ?_
      refine zl_iconst (v := 1) E dL_law_1300 (by decide) ?_
      refine zl_iadd E dL_law_1301 ?_
      refine zl_sld E h_1 e1 dL_law_1302 ?_
      refine zl_call (st := [.int r]) E (ch_46 _ (List.mem_of_getElem? (l := wsL_law_r46) (i := 1) rfl)) cm_X7_load (c_X7_load B.2.1 P σ1 a1) g2 (rc_57 P) ⟨by decide, by decide⟩ rfl rfl (Nat.le_of_ble_eq_true rfl) dL_law_1303 ?_
      refine zl_same (tgt := 1429) E dL_law_1306 (by decide) ?_
      exact htail σ2 hI2
    by_cases c_37 : w = 37
    · obtain ⟨r, σ1, σ2, g1, g2, hI2⟩ := hst 37 (by decide) σ hI a1 a2 a3 a4 a5
      refine zl_tabIn (tgt := 1311) E dL_law_33 c_37 (by decide) (by decide) rfl (by decide) ?_
      refine zl_aload_n E dL_law_1311 1 rfl ?_
      refine zl_aload_n E dL_law_1312 0 rfl ?_
      refine zl_iload_n E dL_law_1313 3 rfl ?_
      refine zl_iconst (v := 1) E dL_law_1314 (by decide) ?_
      refine zl_iadd E dL_law_1315 ?_
      refine zl_sld E h_1 e1 dL_law_1316 ?_
      refine zl_aload_n E dL_law_1317 0 rfl ?_
      refine zl_iload_n E dL_law_1318 3 rfl ?_
      refine zl_iconst (v := 2) E dL_law_1319 (by decide) ?_
      refine zl_iadd E dL_law_1320 ?_
      refine zl_sld E h_2 e2 dL_law_1321 ?_
      refine zl_call (st := []) E (ch_46 _ (List.mem_of_getElem? (l := wsL_law_r46) (i := 5) rfl)) cm_X6_judge (c_X6_judge B.2.1 P σ a1 a2) g1 (rc_0 P) ⟨by decide, by decide⟩ rfl rfl (Nat.le_of_ble_eq_true rfl) dL_law_1322 ?_
      refine zl_aload_n E dL_law_1325 2 rfl ?_
      refine zl_aload_n E dL_law_1326 0 rfl ?_
      refine zl_iload_n E dL_law_1327 3 rfl ?_
      refine zl_iconst (v := 1) E dL_law_1328 (by decide) ?_
      refine zl_iadd E dL_law_1329 ?_
      refine zl_sld E h_1 e1 dL_law_1330 ?_
      refine zl_aload_n E dL_law_1331 0 rfl ?_
      refine zl_iload_n E dL_law_1332 3 rfl ?_
      refine zl_iconst (v := 2) E dL_law_1333 (by decide) ?_
      refine zl_iadd E dL_law_1334 ?_
      refine zl_sld E h_2 e2 dL_law_1335 ?_
      refine zl_call (st := [.int r]) E (ch_46 _ (List.mem_of_getElem? (l := wsL_law_r46) (i := 9) rfl)) cm_X7_judge (c_X7_judge B.2.1 P σ1 a1 a2) g2 (rc_57 P) ⟨by decide, by decide⟩ rfl rfl (Nat.le_of_ble_eq_true rfl) dL_law_1336 ?_
      refine zl_same (tgt := 1429) E dL_law_1339 (by decide) ?_
      exact htail σ2 hI2
    by_cases c_38 : w = 38
    · obtain ⟨r, σ1, σ2, g1, g2, hI2⟩ := hst 38 (by decide) σ hI a1 a2 a3 a4 a5
      refine zl_tabIn (tgt := 1344) E dL_law_33 c_38 (by decide) (by decide) rfl (by decide) ?_
      refine zl_aload_n E dL_law_1344 1 rfl ?_
      refine zl_call (st := []) E (ch_46 _ (List.mem_of_getElem? (l := wsL_law_r46) (i := 13) rfl)) cm_X6_image (c_X6_image B.2.1 P σ) g1 (rc_0 P) ⟨by decide, by decide⟩ rfl rfl (Nat.le_of_ble_eq_true rfl) dL_law_1345 ?_
      refine zl_aload_n E dL_law_1348 2 rfl ?_
      refine zl_call (st := [.int r]) E (ch_46 _ (List.mem_of_getElem? (l := wsL_law_r46) (i := 18) rfl)) cm_X7_image (c_X7_image B.2.1 P σ1) g2 (rc_57 P) ⟨by decide, by decide⟩ rfl rfl (Nat.le_of_ble_eq_true rfl) dL_law_1349 ?_
      refine zl_same (tgt := 1429) E dL_law_1352 (by decide) ?_
      exact htail σ2 hI2
    by_cases c_39 : w = 39
    · obtain ⟨r, σ1, σ2, g1, g2, hI2⟩ := hst 39 (by decide) σ hI a1 a2 a3 a4 a5
      refine zl_tabIn (tgt := 1357) E dL_law_33 c_39 (by decide) (by decide) rfl (by decide) ?_
      refine zl_aload_n E dL_law_1357 1 rfl ?_
      refine zl_call (st := []) E (ch_46 _ (List.mem_of_getElem? (l := wsL_law_r46) (i := 23) rfl)) cm_X6_undo (c_X6_undo B.2.1 P σ) g1 (rc_0 P) ⟨by decide, by decide⟩ rfl rfl (Nat.le_of_ble_eq_true rfl) dL_law_1358 ?_
      refine zl_aload_n E dL_law_1361 2 rfl ?_
      refine zl_call (st := [.int r]) E (ch_47 _ (List.mem_of_getElem? (l := wsL_law_r47) (i := 3) rfl)) cm_X7_undo (c_X7_undo B.2.1 P σ1) g2 (rc_57 P) ⟨by decide, by decide⟩ rfl rfl (Nat.le_of_ble_eq_true rfl) dL_law_1362 ?_
      refine zl_same (tgt := 1429) E dL_law_1365 (by decide) ?_
      exact htail σ2 hI2
    by_cases c_40 : w = 40
    · obtain ⟨r, σ1, σ2, g1, g2, hI2⟩ := hst 40 (by decide) σ hI a1 a2 a3 a4 a5
      refine zl_tabIn (tgt := 1370) E dL_law_33 c_40 (by decide) (by decide) rfl (by decide) ?_
      refine zl_aload_n E dL_law_1370 1 rfl ?_
      refine zl_call (st := []) E (ch_47 _ (List.mem_of_getElem? (l := wsL_law_r47) (i := 7) rfl)) cm_X6_tear (c_X6_tear B.2.1 P σ) g1 (rc_0 P) ⟨by decide, by decide⟩ rfl rfl (Nat.le_of_ble_eq_true rfl) dL_law_1371 ?_
      refine zl_aload_n E dL_law_1374 2 rfl ?_
      refine zl_call (st := [.int r]) E (ch_47 _ (List.mem_of_getElem? (l := wsL_law_r47) (i := 11) rfl)) cm_X7_tear (c_X7_tear B.2.1 P σ1) g2 (rc_57 P) ⟨by decide, by decide⟩ rfl rfl (Nat.le_of_ble_eq_true rfl) dL_law_1375 ?_
      refine zl_same (tgt := 1429) E dL_law_1378 (by decide) ?_
      exact htail σ2 hI2
    by_cases c_41 : w = 41
    · obtain ⟨r, σ1, σ2, g1, g2, hI2⟩ := hst 41 (by decide) σ hI a1 a2 a3 a4 a5
      refine zl_tabIn (tgt := 1383) E dL_law_33 c_41 (by decide) (by decide) rfl (by decide) ?_
      refine zl_aload_n E dL_law_1383 1 rfl ?_
      refine zl_aload_n E dL_law_1384 0 rfl ?_
      refine zl_iload_n E dL_law_1385 3 rfl ?_
      refine zl_iconst (v := 1) E dL_law_1386 (by decide) ?_
      refine zl_iadd E dL_law_1387 ?_
      refine zl_sld E h_1 e1 dL_law_1388 ?_
      refine zl_call (st := []) E (ch_47 _ (List.mem_of_getElem? (l := wsL_law_r47) (i := 15) rfl)) cm_X6_count (c_X6_count B.2.1 P σ a1) g1 (rc_0 P) ⟨by decide, by decide⟩ rfl rfl (Nat.le_of_ble_eq_true rfl) dL_law_1389 ?_
      refine zl_aload_n E dL_law_1392 2 rfl ?_
      refine zl_aload_n E dL_law_1393 0 rfl ?_
      refine zl_iload_n E dL_law_1394 3 rfl ?_
      refine zl_iconst (v := 1) E dL_law_1395 (by decide) ?_
      refine zl_iadd E dL_law_1396 ?_
      refine zl_sld E h_1 e1 dL_law_1397 ?_
      refine zl_call (st := [.int r]) E (ch_47 _ (List.mem_of_getElem? (l := wsL_law_r47) (i := 20) rfl)) cm_X7_count (c_X7_count B.2.1 P σ1 a1) g2 (rc_57 P) ⟨by decide, by decide⟩ rfl rfl (Nat.le_of_ble_eq_true rfl) dL_law_1398 ?_
      refine zl_same (tgt := 1429) E dL_law_1401 (by decide) ?_
      exact htail σ2 hI2
    by_cases c_42 : w = 42
    · obtain ⟨r, σ1, σ2, g1, g2, hI2⟩ := hst 42 (by decide) σ hI a1 a2 a3 a4 a5
      refine zl_tabIn (tgt := 1406) E dL_law_33 c_42 (by decide) (by decide) rfl (by decide) ?_
      refine zl_aload_n E dL_law_1406 1 rfl ?_
      refine zl_aload_n E dL_law_1407 0 rfl ?_
      refine zl_iload_n E dL_law_1408 3 rfl ?_
      refine zl_iconst (v := 1) E dL_law_1409 (by decide) ?_
      refine zl_iadd E dL_law_1410 ?_
      refine zl_sld E h_1 e1 dL_law_1411 ?_
      refine zl_call (st := []) E (ch_48 _ (List.mem_of_getElem? (l := wsL_law_r48) (i := 0) rfl)) cm_X6_status (c_X6_status B.2.1 P σ a1) g1 (rc_0 P) ⟨by decide, by decide⟩ rfl rfl (Nat.le_of_ble_eq_true rfl) dL_law_1412 ?_
      refine zl_aload_n E dL_law_1415 2 rfl ?_
      refine zl_aload_n E dL_law_1416 0 rfl ?_
      refine zl_iload_n E dL_law_1417 3 rfl ?_
      refine zl_iconst (v := 1) E dL_law_1418 (by decide) ?_
      refine zl_iadd E dL_law_1419 ?_
      refine zl_sld E h_1 e1 dL_law_1420 ?_
      refine zl_call (st := [.int r]) E (ch_48 _ (List.mem_of_getElem? (l := wsL_law_r48) (i := 4) rfl)) cm_X7_status (c_X7_status B.2.1 P σ1 a1) g2 (rc_57 P) ⟨by decide, by decide⟩ rfl rfl (Nat.le_of_ble_eq_true rfl) dL_law_1421 ?_
      refine zl_same (tgt := 1429) E dL_law_1424 (by decide) ?_
      exact htail σ2 hI2
    refine zl_tabOut (tgt := 1429) E dL_law_33 (sw_out 0 43 (by decide) (by decide) (fun j hj => by match j, hj with | 0, _ => exact c_0 | 1, _ => exact c_1 | 2, _ => exact c_2 | 3, _ => exact c_3 | 4, _ => exact c_4 | 5, _ => exact c_5 | 6, _ => exact c_6 | 7, _ => exact c_7 | 8, _ => exact c_8 | 9, _ => exact c_9 | 10, _ => exact c_10 | 11, _ => exact c_11 | 12, _ => exact c_12 | 13, _ => exact c_13 | 14, _ => exact c_14 | 15, _ => exact c_15 | 16, _ => exact c_16 | 17, _ => exact c_17 | 18, _ => exact c_18 | 19, _ => exact c_19 | 20, _ => exact c_20 | 21, _ => exact c_21 | 22, _ => exact c_22 | 23, _ => exact c_23 | 24, _ => exact c_24 | 25, _ => exact c_25 | 26, _ => exact c_26 | 27, _ => exact c_27 | 28, _ => exact c_28 | 29, _ => exact c_29 | 30, _ => exact c_30 | 31, _ => exact c_31 | 32, _ => exact c_32 | 33, _ => exact c_33 | 34, _ => exact c_34 | 35, _ => exact c_35 | 36, _ => exact c_36 | 37, _ => exact c_37 | 38, _ => exact c_38 | 39, _ => exact c_39 | 40, _ => exact c_40 | 41, _ => exact c_41 | 42, _ => exact c_42 | (j + 43), hj => exact absurd hj (by omega)) _ (by decide)) (by decide) ?_
    exact htail σ hI
