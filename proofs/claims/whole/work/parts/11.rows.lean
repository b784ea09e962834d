/-! One goal for all methods: zw_G: at pc, with these locals and this stack, the world as σ has it, the method comes to Q. -/
abbrev zw_B : Type := Program × Launch × Env × Room × State × MethodId × Array Value × List Frame × Method × Code
def zw_rm (h : Nat) : Room := { frames := h, cells := 0, slots := 0, locals := 48 * h }
def zw_G (B : zw_B) (P : zw_P) (Q : State → Prop) (nL : Nat) (σ : zw_S) (pc : Nat) (lv : List (Nat × Value)) (st : List Value) : Prop :=
  match B with
  | (p, l, e, R, s, m, args, below, meth, c) => ∀ (H : Heap) (locs : List Loc) (ls : Array Slot), va_P P.1 vwCl (zw_W P σ) H → va_S (zw_A P) s.heap H locs → lv_has ls nL lv → W p l e R s m args below meth c H locs 0 0 Q (F0 m pc ls st)
/-- what a method knows all along -/
def zf (B : zw_B) (P : zw_P) (cc : ByteArray) (own : String) (nL h : Nat) : Prop :=
  match B with
  | (p, l, e, R, s, m, args, below, meth, c) => p.tables.exec = Jvm.exec ∧ c.code = cc ∧ c.maxLocals = nL ∧ s.vm.findClass own = some m.cls ∧ (∀ w ∈ wsL_law, w.before args s = true) ∧ zw_K P s ∧ R = zw_rm h ∧ meth.locks = false
/-- what a method's end must show -/
def zq_i (B : zw_B) (P : zw_P) (r : Int32) (σ : zw_S) : State → Prop :=
  match B with
  | (p, l, e, R, s, m, args, below, meth, c) => MQ below (va_Qi (fun (x : Int32) (u : zw_S) => x = r ∧ u = σ) (fun u t => va_P P.1 vwCl (zw_W P u) t.heap) (zw_A P)) args s 0 0 (zw_A P)
def zq_v (B : zw_B) (P : zw_P) (σ : zw_S) : State → Prop :=
  match B with
  | (p, l, e, R, s, m, args, below, meth, c) => MQ below (va_Qv (fun (u : zw_S) => u = σ) (fun u t => va_P P.1 vwCl (zw_W P u) t.heap) (zw_A P)) args s 0 0 (zw_A P)
/-- a method's contract out of its model's answer -/
def zc_i (l : Launch) (P : zw_P) (y : MethodName) (cc : ByteArray) (nL : Nat) (rt : FieldType) (h : Nat) (args : List Value) (σ : zw_S) (o : Option (Int32 × zw_S)) : Prop :=
  ∀ (r : Int32) (τ : zw_S), o = some (r, τ) → Met l y (Cond.code y cc nL (some rt) :: wsL_law) (zw_rm h) (va_Pc args (zw_Pre P σ)) (va_Qi (fun (x : Int32) (u : zw_S) => x = r ∧ u = τ) (fun u t => va_P P.1 vwCl (zw_W P u) t.heap) (zw_A P)) 0 0 (zw_A P)
def zc_v (l : Launch) (P : zw_P) (y : MethodName) (cc : ByteArray) (nL : Nat) (h : Nat) (args : List Value) (σ : zw_S) (o : Option zw_S) : Prop :=
  ∀ (τ : zw_S), o = some τ → Met l y (Cond.code y cc nL none :: wsL_law) (zw_rm h) (va_Pc args (zw_Pre P σ)) (va_Qv (fun (u : zw_S) => u = τ) (fun u t => va_P P.1 vwCl (zw_W P u) t.heap) (zw_A P)) 0 0 (zw_A P)
/-- the words of a method of objects, of a static one -/
def zm_V (y : MethodName) (cc : ByteArray) (nL : Nat) (rt : Option FieldType) (n : Nat) : Prop := Cond.instanceMethod y ∈ wsL_law ∧ Cond.selects y.cls y y ∈ wsL_law ∧ Cond.initialized y.cls ∈ wsL_law ∧ Cond.code y cc nL rt ∈ wsL_law ∧ y.cls ≠ "java/lang/invoke/MethodHandle" ∧ y.cls ≠ "java/lang/invoke/VarHandle" ∧ (parseMethodDescriptor y.desc).map (fun d => d.parameters.length) = some n
def zm_S (y : MethodName) (cc : ByteArray) (nL : Nat) (rt : Option FieldType) (n : Nat) : Prop := Cond.static y ∈ wsL_law ∧ Cond.initialized y.cls ∈ wsL_law ∧ Cond.code y cc nL rt ∈ wsL_law ∧ y.cls ≠ "java/lang/invoke/MethodHandle" ∧ y.cls ≠ "java/lang/invoke/VarHandle" ∧ (parseMethodDescriptor y.desc).map (fun d => d.parameters.length) = some n
set_option maxRecDepth 20000 in
theorem zm_good : wsL_law.all goodWord = true := by decide +kernel
theorem zm_in {c : Cond} {y : MethodName} {cc : ByteArray} {nL : Nat} {rt : Option FieldType} (h : Cond.code y cc nL rt ∈ wsL_law) : GoodIn (wsL_law) (Cond.code y cc nL rt :: wsL_law) := by
  intro w hw
  have h1 : w ∈ wsL_law := by
    rcases List.mem_cons.mp hw with rfl | h2
    · exact h
    · exact h2
  exact ⟨h1, good_of_word (List.all_eq_true.mp zm_good w h1)⟩
/-- a cell is an object of a class -/
def zw_rc (P : zw_P) (k : Nat) (C : String) : Prop := k < 69 ∧ ∃ (ci : Nat) (T : u_T) (N : Nat), vwCl[ci]? = some (C, T, N) ∧ ∀ r : Nat → Int32, ∃ fs : List Value, zw_ce P k r = .inr (ci, fs)
theorem rc_bk (P : zw_P) {k : Nat} (h : zw_bk k = true) : zw_rc P k RX0 := ⟨zw_lt_bk h, 0, TX0, 15, rfl, fun r => ⟨_, zw_ce_bk P h r⟩⟩
theorem rc_sh (P : zw_P) {k : Nat} (h : zw_sh k = true) : zw_rc P k RX3 := ⟨zw_lt_sh h, 2, TX3, 3, rfl, fun r => ⟨_, zw_ce_sh P h r⟩⟩
theorem rc_0 (P : zw_P) : zw_rc P 0 RX6 := ⟨by decide, 5, TX6, 9, rfl, fun r => ⟨_, rfl⟩⟩
theorem rc_37 (P : zw_P) : zw_rc P 37 RX5 := ⟨by decide, 4, TX5, 1, rfl, fun r => ⟨_, rfl⟩⟩
theorem rc_39 (P : zw_P) : zw_rc P 39 RX1 := ⟨by decide, 1, TX1, 10, rfl, fun r => ⟨_, rfl⟩⟩
theorem rc_45 (P : zw_P) : zw_rc P 45 RX4 := ⟨by decide, 3, TX4, 6, rfl, fun r => ⟨_, rfl⟩⟩
theorem rc_57 (P : zw_P) : zw_rc P 57 RX7 := ⟨by decide, 6, TX7, 18, rfl, fun r => ⟨_, rfl⟩⟩
/-! the models' words -/
def zi (i : Int32) (n : Nat) : Bool := !(decide (i < 0)) && decide (i.toNatClampNeg < n)
theorem zi_in {i : Int32} {n : Nat} (h : zi i n = true) : vp_in i n := by
  simp only [zi, Bool.and_eq_true, Bool.not_eq_true', decide_eq_false_iff_not, decide_eq_true_eq] at h
  intro h2
  rcases h2 with h2 | h2
  · exact h.1 h2
  · omega
def rd {α : Type} (σ : zw_S) (k n : Nat) (i : Int32) (f : Int32 → Option α) : Option α := if zi i n = true then f (σ k i.toNatClampNeg) else none
def wt {α : Type} (σ : zw_S) (k n : Nat) (i v : Int32) (f : zw_S → Option α) : Option α := if zi i n = true then f (zw_wr σ k i.toNatClampNeg v) else none
def nm {α β : Type} (x : α) (f : α → Option β) : Option β := f x
def cl {α : Type} (o : Option (Int32 × zw_S)) (f : Int32 → zw_S → Option α) : Option α := match o with
  | none => none
  | some q => f q.1 q.2
def cv {α : Type} (o : Option zw_S) (f : zw_S → Option α) : Option α := match o with
  | none => none
  | some q => f q
/-- a test that must hold -/
def tt {α : Type} (b : Bool) (o : Option α) : Option α := if b = true then o else none
def zz (v : Int32) : Bool := decide (v = 0) || decide (v = 1)
theorem rd_some {α : Type} {σ : zw_S} {k n : Nat} {i : Int32} {f : Int32 → Option α} {x : α} (h : rd σ k n i f = some x) : vp_in i n ∧ ∃ v, v = σ k i.toNatClampNeg ∧ f v = some x := by
  unfold rd at h
  split at h
  · exact ⟨zi_in ‹_›, _, rfl, h⟩
  · cases h
theorem wt_some {α : Type} {σ : zw_S} {k n : Nat} {i v : Int32} {f : zw_S → Option α} {x : α} (h : wt σ k n i v f = some x) : vp_in i n ∧ ∃ τ, τ = zw_wr σ k i.toNatClampNeg v ∧ f τ = some x := by
  unfold wt at h
  split at h
  · exact ⟨zi_in ‹_›, _, rfl, h⟩
  · cases h
theorem nm_some {α β : Type} {e : α} {f : α → Option β} {x : β} (h : nm e f = some x) : ∃ v, v = e ∧ f v = some x := ⟨_, rfl, h⟩
theorem cl_some {α : Type} {q : Option (Int32 × zw_S)} {f : Int32 → zw_S → Option α} {x : α} (h : cl q f = some x) : ∃ r τ, q = some (r, τ) ∧ f r τ = some x := by
  cases q with
  | none => cases h
  | some q => exact ⟨q.1, q.2, rfl, h⟩
theorem cv_some {α : Type} {q : Option zw_S} {f : zw_S → Option α} {x : α} (h : cv q f = some x) : ∃ τ, q = some τ ∧ f τ = some x := by
  cases q with
  | none => cases h
  | some q => exact ⟨q, rfl, h⟩
theorem tt_some {α : Type} {b : Bool} {q : Option α} {x : α} (h : tt b q = some x) : b = true ∧ q = some x := by
  unfold tt at h
  split at h
  · exact ⟨‹_›, h⟩
  · cases h
theorem zz_some {v : Int32} (h : zz v = true) : v = 0 ∨ v = 1 := by simpa [zz] using h
theorem zz_nar {v : Int32} (h : v = 0 ∨ v = 1) : narrow .boolean (.int v) = .int v := by
  rcases h with rfl | rfl <;> decide
theorem zz_fit {v : Int32} (h : v = 0 ∨ v = 1) : fits .boolean (.int v) = true := by
  rcases h with rfl | rfl <;> decide
section ZR
variable {B : zw_B} {P : zw_P} {Q : State → Prop} {nL h pc : Nat} {σ : zw_S} {lv : List (Nat × Value)} {st : List Value} {cc : ByteArray} {own : String}
theorem zr_top {x e : Int32} (ex : x = e) (k : zw_G B P Q nL σ pc lv (.int x :: st)) : zw_G B P Q nL σ pc lv (.int e :: st) := by
  subst ex
  exact k
theorem zr_st {τ : zw_S} (ex : τ = σ) (k : zw_G B P Q nL τ pc lv st) : zw_G B P Q nL σ pc lv st := by
  subst ex
  exact k
theorem zr_sub {lv' : List (Nat × Value)} (ks : List Nat) (hk : lv_pick lv ks = lv') (k : zw_G B P Q nL σ pc lv' st) : zw_G B P Q nL σ pc lv st := by
  obtain ⟨p, l, e, R, s, m, args, below, meth, c⟩ := B
  intro H locs ls hP hS hl
  exact k H locs ls hP hS (lv_sub hl ks hk)
theorem zr_iconst {n : Int} {v : Int32} (E : zf B P cc own nL h) (hd : decode cc pc = .ok (.iconst n, 1)) (hv : Int32.ofInt n = v) (kk : zw_G B P Q nL σ (pc + 1) lv (.int v :: st)) : zw_G B P Q nL σ pc lv (st) := by
  obtain ⟨p, l, e, R, s, m, args, below, meth, c⟩ := B
  intro H locs ls hP hS hl
  exact lv_iconst E.1 E.2.1 hd hv (kk H locs ls hP hS hl)
theorem zr_bipush {n : Int} {v : Int32} (E : zf B P cc own nL h) (hd : decode cc pc = .ok (.bipush n, 2)) (hv : (Int8.ofInt n).toInt32 = v) (kk : zw_G B P Q nL σ (pc + 2) lv (.int v :: st)) : zw_G B P Q nL σ pc lv (st) := by
  obtain ⟨p, l, e, R, s, m, args, below, meth, c⟩ := B
  intro H locs ls hP hS hl
  exact lv_bipush E.1 E.2.1 hd hv (kk H locs ls hP hS hl)
theorem zr_sipush {n : Int} {v : Int32} (E : zf B P cc own nL h) (hd : decode cc pc = .ok (.sipush n, 3)) (hv : (Int16.ofInt n).toInt32 = v) (kk : zw_G B P Q nL σ (pc + 3) lv (.int v :: st)) : zw_G B P Q nL σ pc lv (st) := by
  obtain ⟨p, l, e, R, s, m, args, below, meth, c⟩ := B
  intro H locs ls hP hS hl
  exact lv_sipush E.1 E.2.1 hd hv (kk H locs ls hP hS hl)
theorem zr_ldc {i : Nat} {v : Int32} (E : zf B P cc own nL h) (hc : Cond.constant own i v ∈ wsL_law) (hd : decode cc pc = .ok (.ldc i, 2)) (kk : zw_G B P Q nL σ (pc + 2) lv (.int v :: st)) : zw_G B P Q nL σ pc lv (st) := by
  obtain ⟨p, l, e, R, s, m, args, below, meth, c⟩ := B
  intro H locs ls hP hS hl
  exact lv_ldc E.1 E.2.1 E.2.2.2.1 (E.2.2.2.2.1 _ hc) hd (kk H locs ls hP hS hl)
theorem zr_ldcw {i : Nat} {v : Int32} (E : zf B P cc own nL h) (hc : Cond.constant own i v ∈ wsL_law) (hd : decode cc pc = .ok (.ldc_w i, 3)) (kk : zw_G B P Q nL σ (pc + 3) lv (.int v :: st)) : zw_G B P Q nL σ pc lv (st) := by
  obtain ⟨p, l, e, R, s, m, args, below, meth, c⟩ := B
  intro H locs ls hP hS hl
  exact lv_ldcw E.1 E.2.1 E.2.2.2.1 (E.2.2.2.2.1 _ hc) hd (kk H locs ls hP hS hl)
theorem zr_ldc2 {i : Nat} {v : Int64} (E : zf B P cc own nL h) (hc : Cond.constantLong own i v ∈ wsL_law) (hd : decode cc pc = .ok (.ldc2_w i, 3)) (kk : zw_G B P Q nL σ (pc + 3) lv (.long v :: st)) : zw_G B P Q nL σ pc lv (st) := by
  obtain ⟨p, l, e, R, s, m, args, below, meth, c⟩ := B
  intro H locs ls hP hS hl
  exact lv_ldc2 E.1 E.2.1 E.2.2.2.1 (E.2.2.2.2.1 _ hc) hd (kk H locs ls hP hS hl)
theorem zr_lconst {n : Fin 2} {v : Int64} (E : zf B P cc own nL h) (hd : decode cc pc = .ok (.lconst n, 1)) (hv : Int64.ofNat (n : Nat) = v) (kk : zw_G B P Q nL σ (pc + 1) lv (.long v :: st)) : zw_G B P Q nL σ pc lv (st) := by
  obtain ⟨p, l, e, R, s, m, args, below, meth, c⟩ := B
  intro H locs ls hP hS hl
  exact lv_lconst E.1 E.2.1 hd hv (kk H locs ls hP hS hl)
theorem zr_ldcT {i : Nat} (E : zf B P cc own nL h) (ho : own = RX4) (w : Nat) (hw : w < 15) (hi : zw_ixT.getD w 0 = i) (hd : decode cc pc = .ok (.ldc i, 2)) (kk : zw_G B P Q nL σ (pc + 2) lv (.ref (zw_aK P w) :: st)) : zw_G B P Q nL σ pc lv (st) := by
  obtain ⟨p, l, e, R, s, m, args, below, meth, c⟩ := B
  intro H locs ls hP hS hl
  subst hi
  subst ho
  exact va_ldcS E.1 E.2.1 E.2.2.2.1 (E.2.2.2.2.2.1.2.2.2.2.2.2.1 w hw) hd (kk H locs ls hP hS hl)
theorem zr_ldcM {i : Nat} (E : zf B P cc own nL h) (ho : own = RX7) (w : Nat) (hw : w < 15) (hi : zw_ixM.getD w 0 = i) (hd : decode cc pc = .ok (.ldc i, 2)) (kk : zw_G B P Q nL σ (pc + 2) lv (.ref (zw_aK P w) :: st)) : zw_G B P Q nL σ pc lv (st) := by
  obtain ⟨p, l, e, R, s, m, args, below, meth, c⟩ := B
  intro H locs ls hP hS hl
  subst hi
  subst ho
  exact va_ldcS E.1 E.2.1 E.2.2.2.1 (E.2.2.2.2.2.1.2.2.2.2.2.2.2.1 w hw) hd (kk H locs ls hP hS hl)
theorem zr_ldcwT {i : Nat} (E : zf B P cc own nL h) (ho : own = RX4) (w : Nat) (hw : w < 15) (hi : zw_ixT.getD w 0 = i) (hd : decode cc pc = .ok (.ldc_w i, 3)) (kk : zw_G B P Q nL σ (pc + 3) lv (.ref (zw_aK P w) :: st)) : zw_G B P Q nL σ pc lv (st) := by
  obtain ⟨p, l, e, R, s, m, args, below, meth, c⟩ := B
  intro H locs ls hP hS hl
  subst hi
  subst ho
  intro T hT X
  obtain ⟨t, a1, b1⟩ := kk H locs ls hP hS hl T hT X
  have hZ := E.2.2.2.2.2.1.2.2.2.2.2.2.1 w hw
  exact ⟨t, Stand.ldcStringW X E.1 E.2.2.2.1 (text := zw_tx.getD w "") (a := zw_aK P w) hZ.1 hZ.2 (g := F0 m pc ls st) rfl (by rw [E.2.1]; exact hd) t a1, b1⟩
theorem zr_ldcwM {i : Nat} (E : zf B P cc own nL h) (ho : own = RX7) (w : Nat) (hw : w < 15) (hi : zw_ixM.getD w 0 = i) (hd : decode cc pc = .ok (.ldc_w i, 3)) (kk : zw_G B P Q nL σ (pc + 3) lv (.ref (zw_aK P w) :: st)) : zw_G B P Q nL σ pc lv (st) := by
  obtain ⟨p, l, e, R, s, m, args, below, meth, c⟩ := B
  intro H locs ls hP hS hl
  subst hi
  subst ho
  intro T hT X
  obtain ⟨t, a1, b1⟩ := kk H locs ls hP hS hl T hT X
  have hZ := E.2.2.2.2.2.1.2.2.2.2.2.2.2.1 w hw
  exact ⟨t, Stand.ldcStringW X E.1 E.2.2.2.1 (text := zw_tx.getD w "") (a := zw_aK P w) hZ.1 hZ.2 (g := F0 m pc ls st) rfl (by rw [E.2.1]; exact hd) t a1, b1⟩
theorem zr_iload_n {k : Fin 4} {x : Int32} (E : zf B P cc own nL h) (hd : decode cc pc = .ok (.iload_n k, 1)) (j : Nat) (hj : lv[j]? = some ((k : Nat), .int x)) (kk : zw_G B P Q nL σ (pc + 1) lv (.int x :: st)) : zw_G B P Q nL σ pc lv (st) := by
  obtain ⟨p, l, e, R, s, m, args, below, meth, c⟩ := B
  intro H locs ls hP hS hl
  exact lv_iload_n E.1 E.2.1 hd rfl (lv_at hl j hj) (kk H locs ls hP hS hl)
theorem zr_iload {i : Nat} {x : Int32} (E : zf B P cc own nL h) (hd : decode cc pc = .ok (.iload i, 2)) (j : Nat) (hj : lv[j]? = some (i, .int x)) (kk : zw_G B P Q nL σ (pc + 2) lv (.int x :: st)) : zw_G B P Q nL σ pc lv (st) := by
  obtain ⟨p, l, e, R, s, m, args, below, meth, c⟩ := B
  intro H locs ls hP hS hl
  exact lv_iload E.1 E.2.1 hd (lv_at hl j hj) (kk H locs ls hP hS hl)
theorem zr_lload_n {k : Fin 4} {x : Int64} (E : zf B P cc own nL h) (hd : decode cc pc = .ok (.lload_n k, 1)) (j : Nat) (hj : lv[j]? = some ((k : Nat), .long x)) (kk : zw_G B P Q nL σ (pc + 1) lv (.long x :: st)) : zw_G B P Q nL σ pc lv (st) := by
  obtain ⟨p, l, e, R, s, m, args, below, meth, c⟩ := B
  intro H locs ls hP hS hl
  exact lv_lload_n E.1 E.2.1 hd rfl (lv_at hl j hj) (kk H locs ls hP hS hl)
theorem zr_lload {i : Nat} {x : Int64} (E : zf B P cc own nL h) (hd : decode cc pc = .ok (.lload i, 2)) (j : Nat) (hj : lv[j]? = some (i, .long x)) (kk : zw_G B P Q nL σ (pc + 2) lv (.long x :: st)) : zw_G B P Q nL σ pc lv (st) := by
  obtain ⟨p, l, e, R, s, m, args, below, meth, c⟩ := B
  intro H locs ls hP hS hl
  exact lv_lload E.1 E.2.1 hd (lv_at hl j hj) (kk H locs ls hP hS hl)
theorem zr_aload_n {k : Fin 4} {x : Nat} (E : zf B P cc own nL h) (hd : decode cc pc = .ok (.aload_n k, 1)) (j : Nat) (hj : lv[j]? = some ((k : Nat), .ref x)) (kk : zw_G B P Q nL σ (pc + 1) lv (.ref x :: st)) : zw_G B P Q nL σ pc lv (st) := by
  obtain ⟨p, l, e, R, s, m, args, below, meth, c⟩ := B
  intro H locs ls hP hS hl
  exact lv_aload_n E.1 E.2.1 hd rfl (lv_at hl j hj) (kk H locs ls hP hS hl)
theorem zr_aload {i : Nat} {x : Nat} (E : zf B P cc own nL h) (hd : decode cc pc = .ok (.aload i, 2)) (j : Nat) (hj : lv[j]? = some (i, .ref x)) (kk : zw_G B P Q nL σ (pc + 2) lv (.ref x :: st)) : zw_G B P Q nL σ pc lv (st) := by
  obtain ⟨p, l, e, R, s, m, args, below, meth, c⟩ := B
  intro H locs ls hP hS hl
  exact lv_aload E.1 E.2.1 hd (lv_at hl j hj) (kk H locs ls hP hS hl)
theorem zr_istore_n {k : Fin 4} {x : Int32} {lv' : List (Nat × Value)} (E : zf B P cc own nL h) (hd : decode cc pc = .ok (.istore_n k, 1)) (hn : (k : Nat) < nL) (hl' : ((k : Nat), Value.int x) :: lv.filter (fun q => !(q.1 == (k : Nat)) && !(q.1 + 1 == (k : Nat) && q.2.category == 2)) = lv') (kk : zw_G B P Q nL σ (pc + 1) lv' (st)) : zw_G B P Q nL σ pc lv (.int x :: st) := by
  obtain ⟨p, l, e, R, s, m, args, below, meth, c⟩ := B
  intro H locs ls hP hS hl
  exact lv_istore_n E.1 E.2.1 hd rfl hl hn hl' (fun ls2 hl2 => kk H locs ls2 hP hS hl2)
theorem zr_istore {i : Nat} {x : Int32} {lv' : List (Nat × Value)} (E : zf B P cc own nL h) (hd : decode cc pc = .ok (.istore i, 2)) (hn : i < nL) (hl' : (i, Value.int x) :: lv.filter (fun q => !(q.1 == i) && !(q.1 + 1 == i && q.2.category == 2)) = lv') (kk : zw_G B P Q nL σ (pc + 2) lv' (st)) : zw_G B P Q nL σ pc lv (.int x :: st) := by
  obtain ⟨p, l, e, R, s, m, args, below, meth, c⟩ := B
  intro H locs ls hP hS hl
  exact lv_istore E.1 E.2.1 hd hl hn hl' (fun ls2 hl2 => kk H locs ls2 hP hS hl2)
theorem zr_astore_n {k : Fin 4} {x : Nat} {lv' : List (Nat × Value)} (E : zf B P cc own nL h) (hd : decode cc pc = .ok (.astore_n k, 1)) (hn : (k : Nat) < nL) (hl' : ((k : Nat), Value.ref x) :: lv.filter (fun q => !(q.1 == (k : Nat)) && !(q.1 + 1 == (k : Nat) && q.2.category == 2)) = lv') (kk : zw_G B P Q nL σ (pc + 1) lv' (st)) : zw_G B P Q nL σ pc lv (.ref x :: st) := by
  obtain ⟨p, l, e, R, s, m, args, below, meth, c⟩ := B
  intro H locs ls hP hS hl
  exact lv_astore_n E.1 E.2.1 hd rfl hl hn hl' (fun ls2 hl2 => kk H locs ls2 hP hS hl2)
theorem zr_astore {i : Nat} {x : Nat} {lv' : List (Nat × Value)} (E : zf B P cc own nL h) (hd : decode cc pc = .ok (.astore i, 2)) (hn : i < nL) (hl' : (i, Value.ref x) :: lv.filter (fun q => !(q.1 == i) && !(q.1 + 1 == i && q.2.category == 2)) = lv') (kk : zw_G B P Q nL σ (pc + 2) lv' (st)) : zw_G B P Q nL σ pc lv (.ref x :: st) := by
  obtain ⟨p, l, e, R, s, m, args, below, meth, c⟩ := B
  intro H locs ls hP hS hl
  exact lv_astore E.1 E.2.1 hd hl hn hl' (fun ls2 hl2 => kk H locs ls2 hP hS hl2)
theorem zr_iinc {i j : Nat} {n : Int} {x v : Int32} {lv' : List (Nat × Value)} (E : zf B P cc own nL h) (hd : decode cc pc = .ok (.iinc i n, 3)) (hj : lv[j]? = some (i, .int x)) (hv : v = x + Int32.ofInt n) (hn : i < nL) (hl' : (i, Value.int v) :: lv.filter (fun q => !(q.1 == i) && !(q.1 + 1 == i && q.2.category == 2)) = lv') (kk : zw_G B P Q nL σ (pc + 3) lv' (st)) : zw_G B P Q nL σ pc lv (st) := by
  obtain ⟨p, l, e, R, s, m, args, below, meth, c⟩ := B
  intro H locs ls hP hS hl
  exact lv_iinc E.1 E.2.1 hd hl hj hv.symm hn hl' (fun ls2 hl2 => kk H locs ls2 hP hS hl2)
theorem zr_iadd {x y : Int32} (E : zf B P cc own nL h) (hd : decode cc pc = .ok (.iadd, 1)) (kk : zw_G B P Q nL σ (pc + 1) lv (.int (x + y) :: st)) : zw_G B P Q nL σ pc lv (.int y :: .int x :: st) := by
  obtain ⟨p, l, e, R, s, m, args, below, meth, c⟩ := B
  intro H locs ls hP hS hl
  exact lv_iadd E.1 E.2.1 hd (kk H locs ls hP hS hl)
theorem zr_isub {x y : Int32} (E : zf B P cc own nL h) (hd : decode cc pc = .ok (.isub, 1)) (kk : zw_G B P Q nL σ (pc + 1) lv (.int (x - y) :: st)) : zw_G B P Q nL σ pc lv (.int y :: .int x :: st) := by
  obtain ⟨p, l, e, R, s, m, args, below, meth, c⟩ := B
  intro H locs ls hP hS hl
  exact lv_isub E.1 E.2.1 hd (kk H locs ls hP hS hl)
theorem zr_imul {x y : Int32} (E : zf B P cc own nL h) (hd : decode cc pc = .ok (.imul, 1)) (kk : zw_G B P Q nL σ (pc + 1) lv (.int (x * y) :: st)) : zw_G B P Q nL σ pc lv (.int y :: .int x :: st) := by
  obtain ⟨p, l, e, R, s, m, args, below, meth, c⟩ := B
  intro H locs ls hP hS hl
  exact lv_imul E.1 E.2.1 hd (kk H locs ls hP hS hl)
theorem zr_iand {x y : Int32} (E : zf B P cc own nL h) (hd : decode cc pc = .ok (.iand, 1)) (kk : zw_G B P Q nL σ (pc + 1) lv (.int (x &&& y) :: st)) : zw_G B P Q nL σ pc lv (.int y :: .int x :: st) := by
  obtain ⟨p, l, e, R, s, m, args, below, meth, c⟩ := B
  intro H locs ls hP hS hl
  exact lv_iand E.1 E.2.1 hd (kk H locs ls hP hS hl)
theorem zr_ior {x y : Int32} (E : zf B P cc own nL h) (hd : decode cc pc = .ok (.ior, 1)) (kk : zw_G B P Q nL σ (pc + 1) lv (.int (x ||| y) :: st)) : zw_G B P Q nL σ pc lv (.int y :: .int x :: st) := by
  obtain ⟨p, l, e, R, s, m, args, below, meth, c⟩ := B
  intro H locs ls hP hS hl
  exact lv_ior E.1 E.2.1 hd (kk H locs ls hP hS hl)
theorem zr_ixor {x y : Int32} (E : zf B P cc own nL h) (hd : decode cc pc = .ok (.ixor, 1)) (kk : zw_G B P Q nL σ (pc + 1) lv (.int (x ^^^ y) :: st)) : zw_G B P Q nL σ pc lv (.int y :: .int x :: st) := by
  obtain ⟨p, l, e, R, s, m, args, below, meth, c⟩ := B
  intro H locs ls hP hS hl
  exact lv_ixor E.1 E.2.1 hd (kk H locs ls hP hS hl)
theorem zr_ishl {x y : Int32} (E : zf B P cc own nL h) (hd : decode cc pc = .ok (.ishl, 1)) (kk : zw_G B P Q nL σ (pc + 1) lv (.int (x <<< (y &&& 31)) :: st)) : zw_G B P Q nL σ pc lv (.int y :: .int x :: st) := by
  obtain ⟨p, l, e, R, s, m, args, below, meth, c⟩ := B
  intro H locs ls hP hS hl
  exact lv_ishl E.1 E.2.1 hd (kk H locs ls hP hS hl)
theorem zr_ishr {x y : Int32} (E : zf B P cc own nL h) (hd : decode cc pc = .ok (.ishr, 1)) (kk : zw_G B P Q nL σ (pc + 1) lv (.int (x >>> (y &&& 31)) :: st)) : zw_G B P Q nL σ pc lv (.int y :: .int x :: st) := by
  obtain ⟨p, l, e, R, s, m, args, below, meth, c⟩ := B
  intro H locs ls hP hS hl
  exact lv_ishr E.1 E.2.1 hd (kk H locs ls hP hS hl)
theorem zr_idiv {x y : Int32} (E : zf B P cc own nL h) (hd : decode cc pc = .ok (.idiv, 1)) (hne : ¬ y = 0) (kk : zw_G B P Q nL σ (pc + 1) lv (.int (x / y) :: st)) : zw_G B P Q nL σ pc lv (.int y :: .int x :: st) := by
  obtain ⟨p, l, e, R, s, m, args, below, meth, c⟩ := B
  intro H locs ls hP hS hl
  exact lv_idiv E.1 E.2.1 hd hne (kk H locs ls hP hS hl)
theorem zr_irem {x y : Int32} (E : zf B P cc own nL h) (hd : decode cc pc = .ok (.irem, 1)) (hne : ¬ y = 0) (kk : zw_G B P Q nL σ (pc + 1) lv (.int (x - x / y * y) :: st)) : zw_G B P Q nL σ pc lv (.int y :: .int x :: st) := by
  obtain ⟨p, l, e, R, s, m, args, below, meth, c⟩ := B
  intro H locs ls hP hS hl
  exact lv_irem E.1 E.2.1 hd hne (kk H locs ls hP hS hl)
def zush (x y : Int32) : Int32 := (x.toUInt32 >>> (y.toUInt32 &&& Int32.toUInt32 31)).toInt32
theorem zr_iushr {x y : Int32} (E : zf B P cc own nL h) (hd : decode cc pc = .ok (.iushr, 1)) (kk : zw_G B P Q nL σ (pc + 1) lv (.int (zush x y) :: st)) : zw_G B P Q nL σ pc lv (.int y :: .int x :: st) := by
  obtain ⟨p, l, e, R, s, m, args, below, meth, c⟩ := B
  intro H locs ls hP hS hl
  exact lv_iushr E.1 E.2.1 hd rfl (kk H locs ls hP hS hl)
theorem zr_i2b {x : Int32} (E : zf B P cc own nL h) (hd : decode cc pc = .ok (.i2b, 1)) (kk : zw_G B P Q nL σ (pc + 1) lv (.int (x.toInt8.toInt32) :: st)) : zw_G B P Q nL σ pc lv (.int x :: st) := by
  obtain ⟨p, l, e, R, s, m, args, below, meth, c⟩ := B
  intro H locs ls hP hS hl
  exact lv_i2b E.1 E.2.1 hd rfl (kk H locs ls hP hS hl)
theorem zr_i2s {x : Int32} (E : zf B P cc own nL h) (hd : decode cc pc = .ok (.i2s, 1)) (kk : zw_G B P Q nL σ (pc + 1) lv (.int (x.toInt16.toInt32) :: st)) : zw_G B P Q nL σ pc lv (.int x :: st) := by
  obtain ⟨p, l, e, R, s, m, args, below, meth, c⟩ := B
  intro H locs ls hP hS hl
  exact lv_i2s E.1 E.2.1 hd rfl (kk H locs ls hP hS hl)
theorem zr_i2l {x : Int32} (E : zf B P cc own nL h) (hd : decode cc pc = .ok (.i2l, 1)) (kk : zw_G B P Q nL σ (pc + 1) lv (.long (x.toInt64) :: st)) : zw_G B P Q nL σ pc lv (.int x :: st) := by
  obtain ⟨p, l, e, R, s, m, args, below, meth, c⟩ := B
  intro H locs ls hP hS hl
  exact lv_i2l E.1 E.2.1 hd rfl (kk H locs ls hP hS hl)
theorem zr_lcmp {x y : Int64} (E : zf B P cc own nL h) (hd : decode cc pc = .ok (.lcmp, 1)) (kk : zw_G B P Q nL σ (pc + 1) lv (.int (lg_cmp x y) :: st)) : zw_G B P Q nL σ pc lv (.long y :: .long x :: st) := by
  obtain ⟨p, l, e, R, s, m, args, below, meth, c⟩ := B
  intro H locs ls hP hS hl
  exact W.lcmp E.1 E.2.1 hd (kk H locs ls hP hS hl)
theorem zr_dup {a : Value} (E : zf B P cc own nL h) (hd : decode cc pc = .ok (.dup, 1)) (ha : a.category = 1) (kk : zw_G B P Q nL σ (pc + 1) lv (a :: a :: st)) : zw_G B P Q nL σ pc lv (a :: st) := by
  obtain ⟨p, l, e, R, s, m, args, below, meth, c⟩ := B
  intro H locs ls hP hS hl
  exact lv_dup E.1 E.2.1 hd ha (kk H locs ls hP hS hl)
theorem zr_pop {a : Value} (E : zf B P cc own nL h) (hd : decode cc pc = .ok (.pop, 1)) (ha : a.category = 1) (kk : zw_G B P Q nL σ (pc + 1) lv (st)) : zw_G B P Q nL σ pc lv (a :: st) := by
  obtain ⟨p, l, e, R, s, m, args, below, meth, c⟩ := B
  intro H locs ls hP hS hl
  exact lv_pop E.1 E.2.1 hd ha (kk H locs ls hP hS hl)
theorem zr_dup_x1 {a b : Value} (E : zf B P cc own nL h) (hd : decode cc pc = .ok (.dup_x1, 1)) (ha : a.category = 1) (hb : b.category = 1) (kk : zw_G B P Q nL σ (pc + 1) lv (a :: b :: a :: st)) : zw_G B P Q nL σ pc lv (a :: b :: st) := by
  obtain ⟨p, l, e, R, s, m, args, below, meth, c⟩ := B
  intro H locs ls hP hS hl
  exact lv_dup_x1 E.1 E.2.1 hd ha hb (kk H locs ls hP hS hl)
theorem zr_dup2 {a b : Value} (E : zf B P cc own nL h) (hd : decode cc pc = .ok (.dup2, 1)) (ha : a.category = 1) (hb : b.category = 1) (kk : zw_G B P Q nL σ (pc + 1) lv (a :: b :: a :: b :: st)) : zw_G B P Q nL σ pc lv (a :: b :: st) := by
  obtain ⟨p, l, e, R, s, m, args, below, meth, c⟩ := B
  intro H locs ls hP hS hl
  exact lv_dup2_11 E.1 E.2.1 hd ha hb (kk H locs ls hP hS hl)
theorem zr_if_eq {x : Int32} {off : Int} {tgt : Nat} (E : zf B P cc own nL h) (hd : decode cc pc = .ok (.ifCond .eq off, 3)) (ht : (pc : Int) + off = (tgt : Int)) (kt : x = 0 → zw_G B P Q nL σ tgt lv st) (kf : ¬ x = 0 → zw_G B P Q nL σ (pc + 3) lv st) : zw_G B P Q nL σ pc lv (.int x :: st) := by
  obtain ⟨p, l, e, R, s, m, args, below, meth, c⟩ := B
  intro H locs ls hP hS hl
  exact lv_if_eq E.1 E.2.1 hd ht (fun q => kt q H locs ls hP hS hl) (fun q => kf q H locs ls hP hS hl)
theorem zr_if_ne {x : Int32} {off : Int} {tgt : Nat} (E : zf B P cc own nL h) (hd : decode cc pc = .ok (.ifCond .ne off, 3)) (ht : (pc : Int) + off = (tgt : Int)) (kt : ¬ x = 0 → zw_G B P Q nL σ tgt lv st) (kf : x = 0 → zw_G B P Q nL σ (pc + 3) lv st) : zw_G B P Q nL σ pc lv (.int x :: st) := by
  obtain ⟨p, l, e, R, s, m, args, below, meth, c⟩ := B
  intro H locs ls hP hS hl
  exact lv_if_ne E.1 E.2.1 hd ht (fun q => kt q H locs ls hP hS hl) (fun q => kf q H locs ls hP hS hl)
theorem zr_if_lt {x : Int32} {off : Int} {tgt : Nat} (E : zf B P cc own nL h) (hd : decode cc pc = .ok (.ifCond .lt off, 3)) (ht : (pc : Int) + off = (tgt : Int)) (kt : x < 0 → zw_G B P Q nL σ tgt lv st) (kf : ¬ x < 0 → zw_G B P Q nL σ (pc + 3) lv st) : zw_G B P Q nL σ pc lv (.int x :: st) := by
  obtain ⟨p, l, e, R, s, m, args, below, meth, c⟩ := B
  intro H locs ls hP hS hl
  exact lv_if_lt E.1 E.2.1 hd ht (fun q => kt q H locs ls hP hS hl) (fun q => kf q H locs ls hP hS hl)
theorem zr_if_ge {x : Int32} {off : Int} {tgt : Nat} (E : zf B P cc own nL h) (hd : decode cc pc = .ok (.ifCond .ge off, 3)) (ht : (pc : Int) + off = (tgt : Int)) (kt : 0 ≤ x → zw_G B P Q nL σ tgt lv st) (kf : ¬ 0 ≤ x → zw_G B P Q nL σ (pc + 3) lv st) : zw_G B P Q nL σ pc lv (.int x :: st) := by
  obtain ⟨p, l, e, R, s, m, args, below, meth, c⟩ := B
  intro H locs ls hP hS hl
  exact lv_if_ge E.1 E.2.1 hd ht (fun q => kt q H locs ls hP hS hl) (fun q => kf q H locs ls hP hS hl)
theorem zr_if_gt {x : Int32} {off : Int} {tgt : Nat} (E : zf B P cc own nL h) (hd : decode cc pc = .ok (.ifCond .gt off, 3)) (ht : (pc : Int) + off = (tgt : Int)) (kt : 0 < x → zw_G B P Q nL σ tgt lv st) (kf : ¬ 0 < x → zw_G B P Q nL σ (pc + 3) lv st) : zw_G B P Q nL σ pc lv (.int x :: st) := by
  obtain ⟨p, l, e, R, s, m, args, below, meth, c⟩ := B
  intro H locs ls hP hS hl
  exact lv_if_gt E.1 E.2.1 hd ht (fun q => kt q H locs ls hP hS hl) (fun q => kf q H locs ls hP hS hl)
theorem zr_if_le {x : Int32} {off : Int} {tgt : Nat} (E : zf B P cc own nL h) (hd : decode cc pc = .ok (.ifCond .le off, 3)) (ht : (pc : Int) + off = (tgt : Int)) (kt : x ≤ 0 → zw_G B P Q nL σ tgt lv st) (kf : ¬ x ≤ 0 → zw_G B P Q nL σ (pc + 3) lv st) : zw_G B P Q nL σ pc lv (.int x :: st) := by
  obtain ⟨p, l, e, R, s, m, args, below, meth, c⟩ := B
  intro H locs ls hP hS hl
  exact lv_if_le E.1 E.2.1 hd ht (fun q => kt q H locs ls hP hS hl) (fun q => kf q H locs ls hP hS hl)
theorem zr_icmp_eq {x y : Int32} {off : Int} {tgt : Nat} (E : zf B P cc own nL h) (hd : decode cc pc = .ok (.if_icmp .eq off, 3)) (ht : (pc : Int) + off = (tgt : Int)) (kt : x = y → zw_G B P Q nL σ tgt lv st) (kf : ¬ x = y → zw_G B P Q nL σ (pc + 3) lv st) : zw_G B P Q nL σ pc lv (.int y :: .int x :: st) := by
  obtain ⟨p, l, e, R, s, m, args, below, meth, c⟩ := B
  intro H locs ls hP hS hl
  exact lv_icmp_eq E.1 E.2.1 hd ht (fun q => kt q H locs ls hP hS hl) (fun q => kf q H locs ls hP hS hl)
theorem zr_icmp_ne {x y : Int32} {off : Int} {tgt : Nat} (E : zf B P cc own nL h) (hd : decode cc pc = .ok (.if_icmp .ne off, 3)) (ht : (pc : Int) + off = (tgt : Int)) (kt : ¬ x = y → zw_G B P Q nL σ tgt lv st) (kf : x = y → zw_G B P Q nL σ (pc + 3) lv st) : zw_G B P Q nL σ pc lv (.int y :: .int x :: st) := by
  obtain ⟨p, l, e, R, s, m, args, below, meth, c⟩ := B
  intro H locs ls hP hS hl
  exact lv_icmp_ne E.1 E.2.1 hd ht (fun q => kt q H locs ls hP hS hl) (fun q => kf q H locs ls hP hS hl)
theorem zr_icmp_lt {x y : Int32} {off : Int} {tgt : Nat} (E : zf B P cc own nL h) (hd : decode cc pc = .ok (.if_icmp .lt off, 3)) (ht : (pc : Int) + off = (tgt : Int)) (kt : x < y → zw_G B P Q nL σ tgt lv st) (kf : ¬ x < y → zw_G B P Q nL σ (pc + 3) lv st) : zw_G B P Q nL σ pc lv (.int y :: .int x :: st) := by
  obtain ⟨p, l, e, R, s, m, args, below, meth, c⟩ := B
  intro H locs ls hP hS hl
  exact lv_icmp_lt E.1 E.2.1 hd ht (fun q => kt q H locs ls hP hS hl) (fun q => kf q H locs ls hP hS hl)
theorem zr_icmp_ge {x y : Int32} {off : Int} {tgt : Nat} (E : zf B P cc own nL h) (hd : decode cc pc = .ok (.if_icmp .ge off, 3)) (ht : (pc : Int) + off = (tgt : Int)) (kt : y ≤ x → zw_G B P Q nL σ tgt lv st) (kf : ¬ y ≤ x → zw_G B P Q nL σ (pc + 3) lv st) : zw_G B P Q nL σ pc lv (.int y :: .int x :: st) := by
  obtain ⟨p, l, e, R, s, m, args, below, meth, c⟩ := B
  intro H locs ls hP hS hl
  exact lv_icmp_ge E.1 E.2.1 hd ht (fun q => kt q H locs ls hP hS hl) (fun q => kf q H locs ls hP hS hl)
theorem zr_icmp_gt {x y : Int32} {off : Int} {tgt : Nat} (E : zf B P cc own nL h) (hd : decode cc pc = .ok (.if_icmp .gt off, 3)) (ht : (pc : Int) + off = (tgt : Int)) (kt : y < x → zw_G B P Q nL σ tgt lv st) (kf : ¬ y < x → zw_G B P Q nL σ (pc + 3) lv st) : zw_G B P Q nL σ pc lv (.int y :: .int x :: st) := by
  obtain ⟨p, l, e, R, s, m, args, below, meth, c⟩ := B
  intro H locs ls hP hS hl
  exact lv_icmp_gt E.1 E.2.1 hd ht (fun q => kt q H locs ls hP hS hl) (fun q => kf q H locs ls hP hS hl)
theorem zr_icmp_le {x y : Int32} {off : Int} {tgt : Nat} (E : zf B P cc own nL h) (hd : decode cc pc = .ok (.if_icmp .le off, 3)) (ht : (pc : Int) + off = (tgt : Int)) (kt : x ≤ y → zw_G B P Q nL σ tgt lv st) (kf : ¬ x ≤ y → zw_G B P Q nL σ (pc + 3) lv st) : zw_G B P Q nL σ pc lv (.int y :: .int x :: st) := by
  obtain ⟨p, l, e, R, s, m, args, below, meth, c⟩ := B
  intro H locs ls hP hS hl
  exact lv_icmp_le E.1 E.2.1 hd ht (fun q => kt q H locs ls hP hS hl) (fun q => kf q H locs ls hP hS hl)
theorem zr_goto {off : Int} {tgt : Nat} (E : zf B P cc own nL h) (hd : decode cc pc = .ok (.goto off, 3)) (ht : (pc : Int) + off = (tgt : Int)) (kk : zw_G B P Q nL σ tgt lv st) : zw_G B P Q nL σ pc lv st := by
  obtain ⟨p, l, e, R, s, m, args, below, meth, c⟩ := B
  intro H locs ls hP hS hl
  exact lv_goto E.1 E.2.1 hd ht (kk H locs ls hP hS hl)
theorem zr_tabIn {dflt lo hi : Int} {offs : Array Int} {len : Nat} {x v : Int32} {off : Int} {tgt : Nat} (E : zf B P cc own nL h) (hd : decode cc pc = .ok (.tableswitch dflt lo hi offs, len)) (hx : x = v) (h1 : ¬ v.toInt < lo) (h2 : ¬ hi < v.toInt) (ho : offs[(v.toInt - lo).toNat]? = some off) (ht : (pc : Int) + off = (tgt : Int)) (kk : zw_G B P Q nL σ tgt lv st) : zw_G B P Q nL σ pc lv (.int x :: st) := by
  obtain ⟨p, l, e, R, s, m, args, below, meth, c⟩ := B
  intro H locs ls hP hS hl
  subst hx
  exact lv_tableIn E.1 E.2.1 hd h1 h2 ho ht (kk H locs ls hP hS hl)
theorem zr_tabOut {dflt lo hi : Int} {offs : Array Int} {len : Nat} {x : Int32} {tgt : Nat} (E : zf B P cc own nL h) (hd : decode cc pc = .ok (.tableswitch dflt lo hi offs, len)) (hx : x.toInt < lo ∨ hi < x.toInt) (ht : (pc : Int) + dflt = (tgt : Int)) (kk : zw_G B P Q nL σ tgt lv st) : zw_G B P Q nL σ pc lv (.int x :: st) := by
  obtain ⟨p, l, e, R, s, m, args, below, meth, c⟩ := B
  intro H locs ls hP hS hl
  exact lv_tableOut E.1 E.2.1 hd hx ht (kk H locs ls hP hS hl)
theorem zr_iald {k n : Nat} {i v : Int32} (E : zf B P cc own nL h) (ha : zw_ar k = true ∧ zw_ln k = n) (hi : vp_in i n) (ev : v = σ k i.toNatClampNeg) (hd : decode cc pc = .ok (.iaload, 1)) (kk : zw_G B P Q nL σ (pc + 1) lv (.int v :: st)) : zw_G B P Q nL σ pc lv (.int i :: .ref (zw_ad P k) :: st) := by
  obtain ⟨p, l, e, R, s, m, args, below, meth, c⟩ := B
  intro H locs ls hP hS hl
  subst ev
  have he := zw_at P σ (zw_lt_ar ha.1)
  rw [zw_ce_ar P ha.1, ha.2] at he
  exact va_iald E.1 E.2.1 E.2.2.2.2.2.1.1 hP k 0 he rfl hi hd (kk H locs ls hP hS hl)
theorem zr_iast {k n : Nat} {i x : Int32} {τ : zw_S} (E : zf B P cc own nL h) (ha : zw_ar k = true ∧ zw_ln k = n) (hi : vp_in i n) (et : τ = zw_wr σ k i.toNatClampNeg x) (hd : decode cc pc = .ok (.iastore, 1)) (kk : zw_G B P Q nL τ (pc + 1) lv st) : zw_G B P Q nL σ pc lv (.int x :: .int i :: .ref (zw_ad P k) :: st) := by
  obtain ⟨p, l, e, R, s, m, args, below, meth, c⟩ := B
  intro H locs ls hP hS hl
  have he := zw_at P σ (zw_lt_ar ha.1)
  rw [zw_ce_ar P ha.1] at he
  refine va_iast E.1 E.2.1 E.2.2.2.2.2.1.1 hP (zw_D E.2.2.2.2.2.1 σ) hS k 0 he rfl (by rw [ha.2]; exact hi) hd (fun H1 locs1 hP1 _ hS1 => ?_)
  rw [← zw_ce_ar P ha.1 (upd (σ k) i.toNatClampNeg x), zw_set P σ (zw_lt_ar ha.1)] at hP1
  subst et
  exact kk H1 locs1 ls hP1 hS1 hl
theorem zr_alen {k n : Nat} {v : Int32} (E : zf B P cc own nL h) (ha : zw_ar k = true ∧ zw_ln k = n) (hv : Int32.ofNat n = v) (hd : decode cc pc = .ok (.arraylength, 1)) (kk : zw_G B P Q nL σ (pc + 1) lv (.int v :: st)) : zw_G B P Q nL σ pc lv (.ref (zw_ad P k) :: st) := by
  obtain ⟨p, l, e, R, s, m, args, below, meth, c⟩ := B
  intro H locs ls hP hS hl
  have he := zw_at P σ (zw_lt_ar ha.1)
  rw [zw_ce_ar P ha.1, ha.2] at he
  exact va_alen E.1 E.2.1 E.2.2.2.2.2.1.1 hP k 0 he (ty := .int) rfl hv hd (kk H locs ls hP hS hl)
theorem zr_sheet {i : Int32} (E : zf B P cc own nL h) (hi : vp_in i 4) (hd : decode cc pc = .ok (.aaload, 1)) (kk : zw_G B P Q nL σ (pc + 1) lv (.ref (zw_ad P (48 + 2 * i.toNatClampNeg)) :: st)) : zw_G B P Q nL σ pc lv (.int i :: .ref (zw_ad P 47) :: st) := by
  obtain ⟨p, l, e, R, s, m, args, below, meth, c⟩ := B
  intro H locs ls hP hS hl
  have he : (zw_W P σ)[47]? = some (zw_ad P 47, .inl (zw_cS P, (4, .inr (.inr (.inr (.inr (zw_shs P))))))) := zw_at P σ (by decide)
  have hv : va_rf (zw_shs P i.toNatClampNeg) = .ref (zw_ad P (48 + 2 * i.toNatClampNeg)) := by
    obtain ⟨j, hj, rfl⟩ := vp_in_of hi (by decide)
    rw [nI_clamp (by omega)]
    rcases (show j = 0 ∨ j = 1 ∨ j = 2 ∨ j = 3 by omega) with rfl | rfl | rfl | rfl <;> rfl
  refine va_aldq E.1 E.2.1 E.2.2.2.2.2.1.1 hP 47 1 he rfl hi hd ?_
  rw [hv]
  exact kk H locs ls hP hS hl
theorem zr_get {ci N i k : Nat} {C : String} {T : u_T} {fs : List Value} {v : Value} (E : zf B P cc own nL h) (hin : ∀ w ∈ u_ws C T N, w ∈ wsL_law) (hc : vwCl[ci]? = some (C, T, N)) (hk : k < 69) (he : zw_ce P k (σ k) = .inr (ci, fs)) (j : Nat) (hj : j < N) (hl : Cond.fieldLink own i (T j).1 (T j).2.1 (T j).2.2.1 ∈ wsL_law) (hv : fs[j]? = some v) (hd : decode cc pc = .ok (.getfield i, 3)) (kk : zw_G B P Q nL σ (pc + 3) lv (v :: st)) : zw_G B P Q nL σ pc lv (.ref (zw_ad P k) :: st) := by
  obtain ⟨p, l, e, R, s, m, args, below, meth, c⟩ := B
  intro H locs ls hP hS hls
  have h0 := zw_at P σ hk
  rw [he] at h0
  exact va_get E.1 E.2.1 E.2.2.2.2.1 hin E.2.2.2.1 E.2.2.2.2.2.1.1 hP k h0 hc j hj (E.2.2.2.2.1 _ hl) (fun _ q => q) hv hd (kk H locs ls hP hS hls)
theorem zr_put {ci N i k : Nat} {C : String} {T : u_T} {fs : List Value} {x : Int32} {ty : FieldType} {τ : zw_S} (E : zf B P cc own nL h) (hin : ∀ w ∈ u_ws C T N, w ∈ wsL_law) (ty0 : Nat → FieldType) (hty : ∀ k, k < N → parseFieldDescriptor (T k).2.2.1 = some (ty0 k)) (hnm : ∀ a, a < N → ∀ b, b < N → a ≠ b → (T a).2.1 ≠ (T b).2.1) (hc : vwCl[ci]? = some (C, T, N)) (hk : k < 69) (he : zw_ce P k (σ k) = .inr (ci, fs)) (j : Nat) (hj : j < N) (hl : Cond.fieldLink own i (T j).1 (T j).2.1 (T j).2.2.1 ∈ wsL_law) (hfin : (T j).2.2.2 = false) (hpd : parseFieldDescriptor (T j).2.2.1 = some ty) (hn : narrow ty (.int x) = .int x) (hfit : fits ty (.int x) = true) (hlen : j < fs.length) (hset : .inr (ci, fs.set j (.int x)) = zw_ce P k (upd (σ k) j x)) (et : τ = zw_wr σ k j x) (hd : decode cc pc = .ok (.putfield i, 3)) (kk : zw_G B P Q nL τ (pc + 3) lv st) : zw_G B P Q nL σ pc lv (.int x :: .ref (zw_ad P k) :: st) := by
  obtain ⟨p, l, e, R, s, m, args, below, meth, c⟩ := B
  intro H locs ls hP hS hls
  have h0 := zw_at P σ hk
  rw [he] at h0
  refine va_put E.1 E.2.1 E.2.2.2.2.1 hin ty0 hty hnm E.2.2.2.1 E.2.2.2.2.2.1.1 hP (zw_D E.2.2.2.2.2.1 σ) hS k h0 hc j hj (E.2.2.2.2.1 _ hl) (fun _ q => q) hfin hpd hn hfit hlen hd (fun H1 locs1 hP1 _ hS1 => ?_)
  rw [hset, zw_set P σ hk] at hP1
  subst et
  exact kk H1 locs1 ls hP1 hS1 hls
theorem zr_abv {i : Nat} (E : zf B P cc own nL h) (hl : Cond.fieldLink own i "NameBook$Kinds" "ABOVE" "[I" ∈ wsL_law) (hd : decode cc pc = .ok (.getstatic i, 3)) (kk : zw_G B P Q nL σ (pc + 3) lv (.ref (zw_tK P) :: st)) : zw_G B P Q nL σ pc lv st := by
  obtain ⟨p, l, e, R, s, m, args, below, meth, c⟩ := B
  intro H locs ls hP hS hls
  exact va_gets E.1 E.2.1 E.2.2.2.2.2.1.2.2.1 hS E.2.2.2.1 (E.2.2.2.2.1 _ hl) (fun _ q => q) hd (kk H locs ls hP hS hls)
theorem zr_abvlen (E : zf B P cc own nL h) (hd : decode cc pc = .ok (.arraylength, 1)) (kk : zw_G B P Q nL σ (pc + 1) lv (.int 7 :: st)) : zw_G B P Q nL σ pc lv (.ref (zw_tK P) :: st) := by
  obtain ⟨p, l, e, R, s, m, args, below, meth, c⟩ := B
  intro H locs ls hP hS hls
  exact va_tlen E.1 E.2.1 E.2.2.2.2.2.1.2.2.2.1 hS rfl hd (kk H locs ls hP hS hls)
def zabv (i : Int32) : Int32 := ([-1, 0, 0, 2, 0, 4, 1] : List Int32).getD i.toNatClampNeg 0
theorem zr_abvld {i v : Int32} (E : zf B P cc own nL h) (hi : vp_in i 7) (ev : v = zabv i) (hd : decode cc pc = .ok (.iaload, 1)) (kk : zw_G B P Q nL σ (pc + 1) lv (.int v :: st)) : zw_G B P Q nL σ pc lv (.int i :: .ref (zw_tK P) :: st) := by
  obtain ⟨p, l, e, R, s, m, args, below, meth, c⟩ := B
  intro H locs ls hP hS hls
  subst ev
  exact va_ti E.1 E.2.1 E.2.2.2.2.2.1.2.2.2.1 hS hi rfl hd (kk H locs ls hP hS hls)
def zmax (x y : Int32) : Int32 := if x < y then y else x
def zmin (x y : Int32) : Int32 := if y < x then y else x
theorem zr_max {i : Nat} {x y : Int32} (E : zf B P cc own nL (h + 1)) (hl : Cond.methodLink own i Lib.Math.max.name ∈ wsL_law) (h2 : Cond.static Lib.Math.max.name ∈ wsL_law) (h3 : Cond.initialized "java/lang/Math" ∈ wsL_law) (h4 : Cond.code Lib.Math.max.name Lib.Math.max.code 2 (some .int) ∈ wsL_law) (hs : (st.map fun v => v.category).sum ≤ 8) (hd : decode cc pc = .ok (.invokestatic i, 3)) (kk : zw_G B P Q nL σ (pc + 3) lv (.int (zmax x y) :: st)) : zw_G B P Q nL σ pc lv (.int y :: .int x :: st) := by
  obtain ⟨p, l, e, R, s, m, args, below, meth, c⟩ := B
  intro H locs ls hP hS hls
  have hR : R = zw_rm (h + 1) := E.2.2.2.2.2.2.1
  exact va_mmax E.1 E.2.1 (E.2.2.1.trans hls.1.symm) E.2.2.2.1 (E.2.2.2.2.1 _ hl) (E.2.2.2.2.1 _ h2) (E.2.2.2.2.1 _ h3) (E.2.2.2.2.1 _ h4) (by rw [hR]; show 1 ≤ h + 1; omega) (by rw [hR]; show _ ≤ 48 * (h + 1); omega) (Nat.zero_le _) (Nat.zero_le _) hd (kk H locs ls hP hS hls)
theorem zr_min {i : Nat} {x y : Int32} (E : zf B P cc own nL (h + 1)) (hl : Cond.methodLink own i Lib.Math.min.name ∈ wsL_law) (h2 : Cond.static Lib.Math.min.name ∈ wsL_law) (h3 : Cond.initialized "java/lang/Math" ∈ wsL_law) (h4 : Cond.code Lib.Math.min.name Lib.Math.min.code 2 (some .int) ∈ wsL_law) (hs : (st.map fun v => v.category).sum ≤ 8) (hd : decode cc pc = .ok (.invokestatic i, 3)) (kk : zw_G B P Q nL σ (pc + 3) lv (.int (zmin x y) :: st)) : zw_G B P Q nL σ pc lv (.int y :: .int x :: st) := by
  obtain ⟨p, l, e, R, s, m, args, below, meth, c⟩ := B
  intro H locs ls hP hS hls
  have hR : R = zw_rm (h + 1) := E.2.2.2.2.2.2.1
  exact va_mmin E.1 E.2.1 (E.2.2.1.trans hls.1.symm) E.2.2.2.1 (E.2.2.2.2.1 _ hl) (E.2.2.2.2.1 _ h2) (E.2.2.2.2.1 _ h3) (E.2.2.2.2.1 _ h4) (by rw [hR]; show 1 ≤ h + 1; omega) (by rw [hR]; show _ ≤ 48 * (h + 1); omega) (Nat.zero_le _) (Nat.zero_le _) hd (kk H locs ls hP hS hls)
theorem zr_copy {i k1 k2 n1 n2 : Nat} {sp dp n : Int32} {τ : zw_S} (E : zf B P cc own nL (h + 1)) (hl : Cond.methodLink own i arraycopyName ∈ wsL_law) (h1 : Cond.native arraycopyName ∈ wsL_law) (h2 : Cond.static arraycopyName ∈ wsL_law) (h3 : Cond.initialized "java/lang/System" ∈ wsL_law) (ha1 : zw_ar k1 = true ∧ zw_ln k1 = n1) (ha2 : zw_ar k2 = true ∧ zw_ln k2 = n2) (hsp : ¬ sp < 0) (hdp : ¬ dp < 0) (hn : ¬ n < 0) (h4 : sp.toNatClampNeg + n.toNatClampNeg ≤ n1) (h5 : dp.toNatClampNeg + n.toNatClampNeg ≤ n2) (hs : (st.map fun v => v.category).sum ≤ 8) (et : τ = zw_us σ k2 (va_cpy (σ k1) (σ k2) sp.toNatClampNeg dp.toNatClampNeg n.toNatClampNeg)) (hd : decode cc pc = .ok (.invokestatic i, 3)) (kk : zw_G B P Q nL τ (pc + 3) lv st) : zw_G B P Q nL σ pc lv (.int n :: .int dp :: .ref (zw_ad P k2) :: .int sp :: .ref (zw_ad P k1) :: st) := by
  obtain ⟨p, l, e, R, s, m, args, below, meth, c⟩ := B
  intro H locs ls hP hS hls
  have hR : R = zw_rm (h + 1) := E.2.2.2.2.2.2.1
  have he1 := zw_at P σ (zw_lt_ar ha1.1)
  rw [zw_ce_ar P ha1.1] at he1
  have he2 := zw_at P σ (zw_lt_ar ha2.1)
  rw [zw_ce_ar P ha2.1] at he2
  have hw : nativeFrameWords "java/lang/System" "arraycopy" 5 ≤ 28 := by decide +kernel
  refine va_copyi E.1 E.2.1 (E.2.2.1.trans hls.1.symm) E.2.2.2.1 (E.2.2.2.2.1 _ hl) (E.2.2.2.2.1 _ h1) (E.2.2.2.2.1 _ h2) (E.2.2.2.2.1 _ h3) E.2.2.2.2.2.1.1 hP (zw_D E.2.2.2.2.2.1 σ) hS k1 k2 0 0 he1 he2 rfl rfl rfl hsp hdp hn (by rw [ha1.2]; exact h4) (by rw [ha2.2]; exact h5) (fun _ _ => rfl) (by rw [hR]; show 1 ≤ h + 1; omega) (by rw [hR]; show _ ≤ 48 * (h + 1); omega) hd (fun H1 locs1 hP1 _ hS1 => ?_)
  rw [← zw_ce_ar P ha2.1, zw_set P σ (zw_lt_ar ha2.1)] at hP1
  subst et
  exact kk H1 locs1 ls hP1 hS1 hls
theorem zr_iret {v r : Int32} {τ : zw_S} {rt : FieldType} (E : zf B P cc own nL h) (hr : B.2.2.2.2.2.2.2.2.1.sig.returnType = some rt) (hn : narrow rt (.int v) = .int v) (hm : some (v, σ) = some (r, τ)) (hd : decode cc pc = .ok (.ireturn, 1)) : zw_G B P (zq_i B P r τ) nL σ pc lv [.int v] := by
  obtain ⟨p, l, e, R, s, m, args, below, meth, c⟩ := B
  intro H locs ls hP hS hls
  cases hm
  exact W.zret E.1 E.2.1 hr hn (fun t ht hW => ⟨⟨v, σ, rfl, ⟨rfl, rfl⟩, by show va_P P.1 vwCl (zw_W P σ) t.heap; rw [ht]; exact hP⟩, hS.F ht⟩) hS.2.2 hd E.2.2.2.2.2.2.2
theorem zr_vret {τ : zw_S} (E : zf B P cc own nL h) (hr : B.2.2.2.2.2.2.2.2.1.sig.returnType = none) (hm : some σ = some τ) (hd : decode cc pc = .ok (.return_, 1)) : zw_G B P (zq_v B P τ) nL σ pc lv [] := by
  obtain ⟨p, l, e, R, s, m, args, below, meth, c⟩ := B
  intro H locs ls hP hS hls
  cases hm
  exact W.vret E.1 E.2.1 hr (fun t ht hW => ⟨⟨σ, rfl, rfl, by show va_P P.1 vwCl (zw_W P σ) t.heap; rw [ht]; exact hP⟩, hS.F ht⟩) hS.2.2 hd E.2.2.2.2.2.2.2
theorem zr_cVi {y : MethodName} {c1 : ByteArray} {n1 i ar h1 k : Nat} {rt : FieldType} {As st0 : List Value} {o : Option (Int32 × zw_S)} {r : Int32} {τ : zw_S} (E : zf B P cc own nL h) (hl : Cond.methodLink own i y ∈ wsL_law) (hw : zm_V y c1 n1 (some rt) ar) (hM : zc_i B.2.1 P y c1 n1 rt h1 (.ref (zw_ad P k) :: As) σ o) (ho : o = some (r, τ)) (hrc : zw_rc P k y.cls) (hh : h1 + 1 ≤ h ∧ 8 + (n1 + 11) + 48 * h1 ≤ 48 * h) (hn : As.length = ar) (hst : st0 = As.reverse ++ .ref (zw_ad P k) :: st) (hs : (st.map fun v => v.category).sum ≤ 8) (hd : decode cc pc = .ok (.invokevirtual i, 3)) (kk : zw_G B P Q nL τ (pc + 3) lv (.int r :: st)) : zw_G B P Q nL σ pc lv st0 := by
  obtain ⟨p, l, e, R, s, m, args, below, meth, c⟩ := B
  intro H locs ls hP hS hls
  obtain ⟨hx, hb, hml, hown, hts, hK, hR, hlk⟩ := E
  subst hR
  have hMet := hM r τ ho
  have hpre : ∀ U : State, U.heap = H → s.WarmedH U.vm → va_Pc ((.ref (zw_ad P k) :: As)) (zw_Pre P σ) ((.ref (zw_ad P k) :: As)).toArray U := fun U hU hW => ⟨rfl, by rw [hU]; exact hP, hK.at hS hU hW⟩
  have hbl : FrameBlind (va_Pc ((.ref (zw_ad P k) :: As)) (zw_Pre P σ)) := fun a U g mk q => ⟨q.1, q.2.1, q.2.2.blind⟩
  obtain ⟨hk, ci, T, N, hc, hce⟩ := hrc
  obtain ⟨fs, hfs⟩ := hce (σ k)
  have h0 := zw_at P σ hk
  rw [hfs] at h0
  have cb := callB_of (R := zw_rm h) (rm := zw_rm h1) (own := own) (index := i) ar hts (zm_in (c := .tt) hw.2.2.2.1) rfl rfl rfl (hts _ hw.2.2.1) (hts _ hl) ⟨hw.2.2.2.2.1, hw.2.2.2.2.2.1, hw.2.2.2.2.2.2⟩ hh
  have hrun := va_runV (rest := st) (g := F0 m pc ls st0) (locs := locs) (cells := 0) (slots := 0) (below := below) (meth := meth) (e := e) (R := zw_rm h) ⟨hx, hb, hml, hown, hts⟩ hMet ⟨cb, hts _ hw.1, hts _ hw.2.1⟩ ⟨hbl, va_recv hK.1 hP hc h0, hpre⟩ rfl hn hls.1 hst (lv_room hs) hd ⟨Nat.le_refl 0, Nat.le_refl 0⟩
  refine va_calli hrun hS (fun _ _ q => q) (fun _ q => q) (fun r1 u t H1 locs1 ht hvm hw1 hB hz1 hk1 hS1 => ?_)
  obtain ⟨rfl, rfl⟩ := hw1
  rw [ht] at hB
  exact kk H1 locs1 ls hB hS1 hls
theorem zr_cVv {y : MethodName} {c1 : ByteArray} {n1 i ar h1 k : Nat} {As st0 : List Value} {o : Option zw_S} {τ : zw_S} (E : zf B P cc own nL h) (hl : Cond.methodLink own i y ∈ wsL_law) (hw : zm_V y c1 n1 none ar) (hM : zc_v B.2.1 P y c1 n1  h1 (.ref (zw_ad P k) :: As) σ o) (ho : o = some τ) (hrc : zw_rc P k y.cls) (hh : h1 + 1 ≤ h ∧ 8 + (n1 + 11) + 48 * h1 ≤ 48 * h) (hn : As.length = ar) (hst : st0 = As.reverse ++ .ref (zw_ad P k) :: st) (hs : (st.map fun v => v.category).sum ≤ 8) (hd : decode cc pc = .ok (.invokevirtual i, 3)) (kk : zw_G B P Q nL τ (pc + 3) lv st) : zw_G B P Q nL σ pc lv st0 := by
  obtain ⟨p, l, e, R, s, m, args, below, meth, c⟩ := B
  intro H locs ls hP hS hls
  obtain ⟨hx, hb, hml, hown, hts, hK, hR, hlk⟩ := E
  subst hR
  have hMet := hM τ ho
  have hpre : ∀ U : State, U.heap = H → s.WarmedH U.vm → va_Pc ((.ref (zw_ad P k) :: As)) (zw_Pre P σ) ((.ref (zw_ad P k) :: As)).toArray U := fun U hU hW => ⟨rfl, by rw [hU]; exact hP, hK.at hS hU hW⟩
  have hbl : FrameBlind (va_Pc ((.ref (zw_ad P k) :: As)) (zw_Pre P σ)) := fun a U g mk q => ⟨q.1, q.2.1, q.2.2.blind⟩
  obtain ⟨hk, ci, T, N, hc, hce⟩ := hrc
  obtain ⟨fs, hfs⟩ := hce (σ k)
  have h0 := zw_at P σ hk
  rw [hfs] at h0
  have cb := callB_of (R := zw_rm h) (rm := zw_rm h1) (own := own) (index := i) ar hts (zm_in (c := .tt) hw.2.2.2.1) rfl rfl rfl (hts _ hw.2.2.1) (hts _ hl) ⟨hw.2.2.2.2.1, hw.2.2.2.2.2.1, hw.2.2.2.2.2.2⟩ hh
  have hrun := va_runV (rest := st) (g := F0 m pc ls st0) (locs := locs) (cells := 0) (slots := 0) (below := below) (meth := meth) (e := e) (R := zw_rm h) ⟨hx, hb, hml, hown, hts⟩ hMet ⟨cb, hts _ hw.1, hts _ hw.2.1⟩ ⟨hbl, va_recv hK.1 hP hc h0, hpre⟩ rfl hn hls.1 hst (lv_room hs) hd ⟨Nat.le_refl 0, Nat.le_refl 0⟩
  refine va_callv hrun hS (fun _ _ q => q) (fun _ q => q) (fun u t H1 locs1 ht hvm hw1 hB hz1 hk1 hS1 => ?_)
  subst hw1
  rw [ht] at hB
  exact kk H1 locs1 ls hB hS1 hls
theorem zr_cSi {y : MethodName} {c1 : ByteArray} {n1 i ar h1 : Nat} {rt : FieldType} {As st0 : List Value} {o : Option (Int32 × zw_S)} {r : Int32} {τ : zw_S} (E : zf B P cc own nL h) (hl : Cond.methodLink own i y ∈ wsL_law) (hw : zm_S y c1 n1 (some rt) ar) (hM : zc_i B.2.1 P y c1 n1 rt h1 As σ o) (ho : o = some (r, τ)) (hh : h1 + 1 ≤ h ∧ 8 + (n1 + 11) + 48 * h1 ≤ 48 * h) (hn : As.length = ar) (hst : st0 = As.reverse ++ st) (hs : (st.map fun v => v.category).sum ≤ 8) (hd : decode cc pc = .ok (.invokestatic i, 3)) (kk : zw_G B P Q nL τ (pc + 3) lv (.int r :: st)) : zw_G B P Q nL σ pc lv st0 := by
  obtain ⟨p, l, e, R, s, m, args, below, meth, c⟩ := B
  intro H locs ls hP hS hls
  obtain ⟨hx, hb, hml, hown, hts, hK, hR, hlk⟩ := E
  subst hR
  have hMet := hM r τ ho
  have hpre : ∀ U : State, U.heap = H → s.WarmedH U.vm → va_Pc (As) (zw_Pre P σ) (As).toArray U := fun U hU hW => ⟨rfl, by rw [hU]; exact hP, hK.at hS hU hW⟩
  have hbl : FrameBlind (va_Pc (As) (zw_Pre P σ)) := fun a U g mk q => ⟨q.1, q.2.1, q.2.2.blind⟩
  have cb := callB_of (R := zw_rm h) (rm := zw_rm h1) (own := own) (index := i) ar hts (zm_in (c := .tt) hw.2.2.1) rfl rfl rfl (hts _ hw.2.1) (hts _ hl) ⟨hw.2.2.2.1, hw.2.2.2.2.1, hw.2.2.2.2.2⟩ hh
  have hrun := va_runS (rest := st) (g := F0 m pc ls st0) (locs := locs) (cells := 0) (slots := 0) (below := below) (meth := meth) (e := e) (R := zw_rm h) ⟨hx, hb, hml, hown, hts⟩ hMet ⟨cb, hts _ hw.1⟩ ⟨hbl, hpre⟩ rfl hn hls.1 hst (lv_room hs) hd ⟨Nat.le_refl 0, Nat.le_refl 0⟩
  refine va_calli hrun hS (fun _ _ q => q) (fun _ q => q) (fun r1 u t H1 locs1 ht hvm hw1 hB hz1 hk1 hS1 => ?_)
  obtain ⟨rfl, rfl⟩ := hw1
  rw [ht] at hB
  exact kk H1 locs1 ls hB hS1 hls
theorem zr_cSv {y : MethodName} {c1 : ByteArray} {n1 i ar h1 : Nat} {As st0 : List Value} {o : Option zw_S} {τ : zw_S} (E : zf B P cc own nL h) (hl : Cond.methodLink own i y ∈ wsL_law) (hw : zm_S y c1 n1 none ar) (hM : zc_v B.2.1 P y c1 n1  h1 As σ o) (ho : o = some τ) (hh : h1 + 1 ≤ h ∧ 8 + (n1 + 11) + 48 * h1 ≤ 48 * h) (hn : As.length = ar) (hst : st0 = As.reverse ++ st) (hs : (st.map fun v => v.category).sum ≤ 8) (hd : decode cc pc = .ok (.invokestatic i, 3)) (kk : zw_G B P Q nL τ (pc + 3) lv st) : zw_G B P Q nL σ pc lv st0 := by
  obtain ⟨p, l, e, R, s, m, args, below, meth, c⟩ := B
  intro H locs ls hP hS hls
  obtain ⟨hx, hb, hml, hown, hts, hK, hR, hlk⟩ := E
  subst hR
  have hMet := hM τ ho
  have hpre : ∀ U : State, U.heap = H → s.WarmedH U.vm → va_Pc (As) (zw_Pre P σ) (As).toArray U := fun U hU hW => ⟨rfl, by rw [hU]; exact hP, hK.at hS hU hW⟩
  have hbl : FrameBlind (va_Pc (As) (zw_Pre P σ)) := fun a U g mk q => ⟨q.1, q.2.1, q.2.2.blind⟩
  have cb := callB_of (R := zw_rm h) (rm := zw_rm h1) (own := own) (index := i) ar hts (zm_in (c := .tt) hw.2.2.1) rfl rfl rfl (hts _ hw.2.1) (hts _ hl) ⟨hw.2.2.2.1, hw.2.2.2.2.1, hw.2.2.2.2.2⟩ hh
  have hrun := va_runS (rest := st) (g := F0 m pc ls st0) (locs := locs) (cells := 0) (slots := 0) (below := below) (meth := meth) (e := e) (R := zw_rm h) ⟨hx, hb, hml, hown, hts⟩ hMet ⟨cb, hts _ hw.1⟩ ⟨hbl, hpre⟩ rfl hn hls.1 hst (lv_room hs) hd ⟨Nat.le_refl 0, Nat.le_refl 0⟩
  refine va_callv hrun hS (fun _ _ q => q) (fun _ q => q) (fun u t H1 locs1 ht hvm hw1 hB hz1 hk1 hS1 => ?_)
  subst hw1
  rw [ht] at hB
  exact kk H1 locs1 ls hB hS1 hls
theorem zr_cTi {y : MethodName} {c1 : ByteArray} {n1 i ar h1 k : Nat} {rt : FieldType} {As st0 : List Value} {o : Option (Int32 × zw_S)} {r : Int32} {τ : zw_S} (E : zf B P cc own nL h) (hl : Cond.methodLink own i y ∈ wsL_law) (hw : zm_V y c1 n1 (some rt) ar) (hM : zc_i B.2.1 P y c1 n1 rt h1 (.ref (zw_aK P k) :: As) σ o) (ho : o = some (r, τ)) (hrc : k < 15 ∧ y.cls = "java/lang/String") (hh : h1 + 1 ≤ h ∧ 8 + (n1 + 11) + 48 * h1 ≤ 48 * h) (hn : As.length = ar) (hst : st0 = As.reverse ++ .ref (zw_aK P k) :: st) (hs : (st.map fun v => v.category).sum ≤ 8) (hd : decode cc pc = .ok (.invokevirtual i, 3)) (kk : zw_G B P Q nL τ (pc + 3) lv (.int r :: st)) : zw_G B P Q nL σ pc lv st0 := by
  obtain ⟨p, l, e, R, s, m, args, below, meth, c⟩ := B
  intro H locs ls hP hS hls
  obtain ⟨hx, hb, hml, hown, hts, hK, hR, hlk⟩ := E
  subst hR
  have hMet := hM r τ ho
  have hpre : ∀ U : State, U.heap = H → s.WarmedH U.vm → va_Pc ((.ref (zw_aK P k) :: As)) (zw_Pre P σ) ((.ref (zw_aK P k) :: As)).toArray U := fun U hU hW => ⟨rfl, by rw [hU]; exact hP, hK.at hS hU hW⟩
  have hbl : FrameBlind (va_Pc ((.ref (zw_aK P k) :: As)) (zw_Pre P σ)) := fun a U g mk q => ⟨q.1, q.2.1, q.2.2.blind⟩
  have hcell := zw_recv hK.2.2.2.2.1 hrc.1 hS
  rw [← hrc.2] at hcell
  have cb := callB_of (R := zw_rm h) (rm := zw_rm h1) (own := own) (index := i) ar hts (zm_in (c := .tt) hw.2.2.2.1) rfl rfl rfl (hts _ hw.2.2.1) (hts _ hl) ⟨hw.2.2.2.2.1, hw.2.2.2.2.2.1, hw.2.2.2.2.2.2⟩ hh
  have hrun := va_runV (rest := st) (g := F0 m pc ls st0) (locs := locs) (cells := 0) (slots := 0) (below := below) (meth := meth) (e := e) (R := zw_rm h) ⟨hx, hb, hml, hown, hts⟩ hMet ⟨cb, hts _ hw.1, hts _ hw.2.1⟩ ⟨hbl, hcell, hpre⟩ rfl hn hls.1 hst (lv_room hs) hd ⟨Nat.le_refl 0, Nat.le_refl 0⟩
  refine va_calli hrun hS (fun _ _ q => q) (fun _ q => q) (fun r1 u t H1 locs1 ht hvm hw1 hB hz1 hk1 hS1 => ?_)
  obtain ⟨rfl, rfl⟩ := hw1
  rw [ht] at hB
  exact kk H1 locs1 ls hB hS1 hls
/-! texts: length and charAt -/
def zsl (w : Nat) : Int32 := nI (zw_len.getD w 0)
def zsc (w : Nat) (i : Int32) : Int32 := (zw_byt.getD w []).getD i.toNatClampNeg 0 &&& 255
end ZR
/-- from the walk of a method's body to its contract -/
theorem zc_i.of {l : Launch} {P : zw_P} {y : MethodName} {cc : ByteArray} {nL : Nat} {rt : FieldType} {h : Nat} {args : List Value} {σ : zw_S} {o : Option (Int32 × zw_S)} (hy : plainName y.cls = true) (ha : (lg_sl args).length ≤ nL)
    (body : ∀ (B : zw_B) (r : Int32) (τ : zw_S), zf B P cc y.cls nL h → B.2.1 = l → B.2.2.2.2.2.2.2.2.1.sig.returnType = some rt → o = some (r, τ) → zw_G B P (zq_i B P r τ) nL σ 0 (lv_args 0 args) []) : zc_i l P y cc nL rt h args σ o := by
  intro r τ ho
  refine Met.ofW (cc := cc) (maxL := nL) (ret := some rt) hy rfl ?_
  intro p e s m args' below meth c s₁ B hml hv
  obtain ⟨rfl, hP, hK⟩ := hv
  have hts := atoms_spec (ws := Cond.code y cc nL (some rt) :: wsL_law) B.pre
  have hb := body (p, l, e, zw_rm h, s, m, args.toArray, below, meth, c) r τ ⟨B.exec, B.bytes, hml, findClass_of_methodNamed B.named, fun w hw => hts w (List.mem_cons_of_mem _ hw), hK, rfl, B.notSynchronized⟩ rfl B.returns ho
  rw [lg_entry_eq]
  exact hb s.heap [] _ hP va_S.rf (lv_entry args ha)
theorem zc_v.of {l : Launch} {P : zw_P} {y : MethodName} {cc : ByteArray} {nL : Nat} {h : Nat} {args : List Value} {σ : zw_S} {o : Option zw_S} (hy : plainName y.cls = true) (ha : (lg_sl args).length ≤ nL)
    (body : ∀ (B : zw_B) (τ : zw_S), zf B P cc y.cls nL h → B.2.1 = l → B.2.2.2.2.2.2.2.2.1.sig.returnType = none → o = some τ → zw_G B P (zq_v B P τ) nL σ 0 (lv_args 0 args) []) : zc_v l P y cc nL h args σ o := by
  intro τ ho
  refine Met.ofW (cc := cc) (maxL := nL) (ret := none) hy rfl ?_
  intro p e s m args' below meth c s₁ B hml hv
  obtain ⟨rfl, hP, hK⟩ := hv
  have hts := atoms_spec (ws := Cond.code y cc nL none :: wsL_law) B.pre
  have hb := body (p, l, e, zw_rm h, s, m, args.toArray, below, meth, c) τ ⟨B.exec, B.bytes, hml, findClass_of_methodNamed B.named, fun w hw => hts w (List.mem_cons_of_mem _ hw), hK, rfl, B.notSynchronized⟩ rfl B.returns ho
  rw [lg_entry_eq]
  exact hb s.heap [] _ hP va_S.rf (lv_entry args ha)
/-- a switch's other values -/
theorem sw_out {x : Int32} (lo : Int) (n : Nat) (hlo : -1000 ≤ lo ∧ lo ≤ 1000) (hn : n ≤ 1000) (hne : ∀ j : Nat, j < n → ¬ x = Int32.ofInt (lo + j)) (hi : Int) (hhi : hi = lo + n - 1) : x.toInt < lo ∨ hi < x.toInt := by
  rcases Int.lt_or_le x.toInt lo with h | h
  · exact Or.inl h
  · rcases Int.lt_or_le hi x.toInt with h2 | h2
    · exact Or.inr h2
    · exfalso
      refine hne (x.toInt - lo).toNat (by omega) ?_
      rw [show lo + ((x.toInt - lo).toNat : Int) = x.toInt by omega]
      exact (Int32.ofInt_toInt x).symm
