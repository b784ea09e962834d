/-! constructors -/
section ZN
variable {p : Program} {l : Launch} {e : Env} {R : Room} {s : State} {m : MethodId} {args : Array Value} {below : List Frame} {meth : Method} {c : Code} {H : Heap} {locs : List Loc} {cells slots : Nat} {Q : State → Prop}
variable {D : va_G} {cI cS : ClassId} {ws : va_W} {A : Nat → Prop} {H0 : Heap} {cc : ByteArray} {pc : Nat} {ls : Array Slot} {st : List Value}
theorem zn_newa (hx : p.tables.exec = Jvm.exec) (hb : c.code = cc) (harr : (Cond.arrayClass .int).before args s = true) (hK : va_K D vwCl [(cI, .int), (cS, .object "NameBook$Sheet")] s) (hP : va_P D vwCl ws H) (hD : va_D A ws) (hS : va_S A H0 H locs) (hA : ∀ q, H0.size ≤ q → A q) {n : Int32} {N : Nat} (hn : ¬ n < 0) (hN : n.toNatClampNeg = N) (hN2 : N ≤ 1000) (hcells : cells + 1 ≤ R.cells) (hslots : slots + N ≤ R.slots) (hd : decode cc pc = .ok (.newarray .int, 2))
    (kk : ∀ (q : Nat) (H1 : Heap), va_P D vwCl (ws ++ [(q, .inl (cI, (N, .inl (fun _ => 0))))]) H1 → va_D A (ws ++ [(q, .inl (cI, (N, .inl (fun _ => 0))))]) → va_S A H0 H1 locs → W p l e R s m args below meth c H1 locs (cells + 1) (slots + N) Q (F0 m (pc + 2) ls (.ref q :: st))) : W p l e R s m args below meth c H locs cells slots Q (F0 m pc ls (.int n :: st)) := by
  have hcb : N * componentBytes .int ≤ 536870912 := by
    rw [show componentBytes .int = 4 by decide]
    omega
  refine va_newa (atype := .int) (ty := .int) (a0 := (N, .inl (fun _ => 0))) hx hb harr rfl hK hP hD hS hA (fun cA => rfl) hn hN hcb hcells hslots hd (fun q cA H1 hK1 hP1 hD1 hS1 => ?_)
  have h1 : s.vm.findClass ("[" ++ FieldType.int.toString) = some cA := (hK1.2 2 (cA, .int) rfl).2
  have h2 : s.vm.findClass ("[" ++ FieldType.int.toString) = some cI := (hK.2 0 (cI, .int) rfl).2
  have h3 : cA = cI := Option.some.inj (h1.symm.trans h2)
  subst h3
  exact kk q H1 hP1 hD1 hS1
theorem zn_newq (hx : p.tables.exec = Jvm.exec) (hb : c.code = cc) {own : String} {i : Nat} (hown : s.vm.findClass own = some m.cls) (hcl : (Cond.classLink own i "NameBook$Sheet").before args s = true) (hAO : va_AO "NameBook$Sheet" s) (hK : va_K D vwCl [(cI, .int), (cS, .object "NameBook$Sheet")] s) (hP : va_P D vwCl ws H) (hD : va_D A ws) (hS : va_S A H0 H locs) (hA : ∀ q, H0.size ≤ q → A q) {n : Int32} {N : Nat} (hn : ¬ n < 0) (hN : n.toNatClampNeg = N) (hN2 : N * 4 ≤ 536870912) (hcells : cells + 1 ≤ R.cells) (hslots : slots + N ≤ R.slots) (hd : decode cc pc = .ok (.anewarray i, 3))
    (kk : ∀ (q : Nat) (H1 : Heap), va_P D vwCl (ws ++ [(q, .inl (cS, (N, .inr (.inr (.inr (.inr (fun _ => none)))))))]) H1 → va_D A (ws ++ [(q, .inl (cS, (N, .inr (.inr (.inr (.inr (fun _ => none)))))))]) → va_S A H0 H1 locs → W p l e R s m args below meth c H1 locs (cells + 1) (slots + N) Q (F0 m (pc + 3) ls (.ref q :: st))) : W p l e R s m args below meth c H locs cells slots Q (F0 m pc ls (.int n :: st)) := by
  refine va_newq hx hb hown hcl hAO hK hP hD hS hA hn hN hN2 hcells hslots hd (fun q cA H1 hK1 hP1 hD1 hS1 => ?_)
  obtain ⟨_, _, -, -, -, h1⟩ := (hK1.2 2 (cA, .object "NameBook$Sheet") rfl).2
  obtain ⟨_, _, -, -, -, h2⟩ := (hK.2 1 (cS, .object "NameBook$Sheet") rfl).2
  have h3 : cA = cS := Option.some.inj (h1.symm.trans h2)
  subst h3
  exact kk q H1 hP1 hD1 hS1
end ZN

theorem zn_defX0 : ∀ j, j < 15 → defaultValue (tyX0 j) = vp_V [.int 0, .int 0, .int 0, .int 0, .null, .null, .null, .null, .null, .null, .null, .null, .null, .null, .null] j := by
  intro j hj
  rcases (show j = 0 ∨ j = 1 ∨ j = 2 ∨ j = 3 ∨ j = 4 ∨ j = 5 ∨ j = 6 ∨ j = 7 ∨ j = 8 ∨ j = 9 ∨ j = 10 ∨ j = 11 ∨ j = 12 ∨ j = 13 ∨ j = 14 by omega) with rfl | rfl | rfl | rfl | rfl | rfl | rfl | rfl | rfl | rfl | rfl | rfl | rfl | rfl | rfl <;> rfl
theorem zn_defX1 : ∀ j, j < 10 → defaultValue (tyX1 j) = vp_V [.null, .null, .null, .null, .null, .null, .null, .int 0, .int 0, .int 0] j := by
  intro j hj
  rcases (show j = 0 ∨ j = 1 ∨ j = 2 ∨ j = 3 ∨ j = 4 ∨ j = 5 ∨ j = 6 ∨ j = 7 ∨ j = 8 ∨ j = 9 by omega) with rfl | rfl | rfl | rfl | rfl | rfl | rfl | rfl | rfl | rfl <;> rfl
theorem zn_defX3 : ∀ j, j < 3 → defaultValue (tyX3 j) = vp_V [.null, .int 0, .int 0] j := by
  intro j hj
  rcases (show j = 0 ∨ j = 1 ∨ j = 2 by omega) with rfl | rfl | rfl <;> rfl
theorem zn_defX4 : ∀ j, j < 6 → defaultValue (tyX4 j) = vp_V [.null, .int 0, .int 0, .int 0, .int 0, .int 0] j := by
  intro j hj
  rcases (show j = 0 ∨ j = 1 ∨ j = 2 ∨ j = 3 ∨ j = 4 ∨ j = 5 by omega) with rfl | rfl | rfl | rfl | rfl | rfl <;> rfl
theorem zn_defX5 : ∀ j, j < 1 → defaultValue (tyX5 j) = vp_V [.null] j := by
  intro j hj
  rcases (show j = 0 by omega) with rfl <;> rfl
theorem zn_defX6 : ∀ j, j < 9 → defaultValue (tyX6 j) = vp_V [.null, .null, .null, .null, .null, .null, .null, .null, .int 0] j := by
  intro j hj
  rcases (show j = 0 ∨ j = 1 ∨ j = 2 ∨ j = 3 ∨ j = 4 ∨ j = 5 ∨ j = 6 ∨ j = 7 ∨ j = 8 by omega) with rfl | rfl | rfl | rfl | rfl | rfl | rfl | rfl | rfl <;> rfl
theorem zn_defX7 : ∀ j, j < 18 → defaultValue (tyX7 j) = vp_V [.null, .null, .null, .null, .int 0, .null, .null, .null, .null, .int 0, .int 0, .int 0, .int 0, .int 0, .int 0, .null, .null, .null] j := by
  intro j hj
  rcases (show j = 0 ∨ j = 1 ∨ j = 2 ∨ j = 3 ∨ j = 4 ∨ j = 5 ∨ j = 6 ∨ j = 7 ∨ j = 8 ∨ j = 9 ∨ j = 10 ∨ j = 11 ∨ j = 12 ∨ j = 13 ∨ j = 14 ∨ j = 15 ∨ j = 16 ∨ j = 17 by omega) with rfl | rfl | rfl | rfl | rfl | rfl | rfl | rfl | rfl | rfl | rfl | rfl | rfl | rfl | rfl | rfl | rfl | rfl <;> rfl
set_option maxRecDepth 100000 in
set_option maxHeartbeats 4000000 in
theorem k_fill8 (l : Launch) (D : va_G) (cI cS : ClassId) (h0 sz : Nat) (f : Nat → Int32) (v : Int32) : Met l yJ7_fill_53178 (Cond.code yJ7_fill_53178 cJ7_fill_53178 4 none :: wsL_law) ({ frames := 0, cells := 0, slots := 0, locals := 0 }) (va_Pc [.ref h0, .int v] (fun U => U.heap.size = sz ∧ va_P D vwCl [(h0, .inl (cI, (8, .inl f)))] U.heap ∧ va_K D vwCl [(cI, .int), (cS, .object "NameBook$Sheet")] U ∧ va_D (fun _ => True) [(h0, .inl (cI, (8, .inl f)))])) (va_Qv (fun _ : Unit => True) (fun _ t => va_P D vwCl [(h0, .inl (cI, (8, .inl (upd (upd (upd (upd (upd (upd (upd (upd f 0 v) 1 v) 2 v) 3 v) 4 v) 5 v) 6 v) 7 v))))] t.heap ∧ va_D (va_A [(h0, .inl (cI, (8, .inl f)))] sz) [(h0, .inl (cI, (8, .inl (upd (upd (upd (upd (upd (upd (upd (upd f 0 v) 1 v) 2 v) 3 v) 4 v) 5 v) 6 v) 7 v))))]) (va_A [(h0, .inl (cI, (8, .inl f)))] sz)) 0 0 (va_A [(h0, .inl (cI, (8, .inl f)))] sz) := by
  refine Met.ofW (cc := cJ7_fill_53178) (maxL := 4) (ret := none) (by decide) rfl ?_
  intro p e s m args below meth c s₁ B hml hv
  obtain ⟨rfl, hsz, hP, hK, hD0⟩ := hv
  have hx := B.exec
  have hb := B.bytes
  have hr := B.returns
  have hts0 := atoms_spec (ws := Cond.code yJ7_fill_53178 cJ7_fill_53178 4 none :: wsL_law) B.pre
  have hts : ∀ w ∈ wsL_law, w.before _ s = true := fun w hw => hts0 w (List.mem_cons_of_mem _ hw)
  have hown : s.vm.findClass RJ7 = some m.cls := findClass_of_methodNamed B.named
  have hlocks := B.notSynchronized
  subst hsz
  have hD := hD0.self (sz := s.heap.size)
  generalize hAe : va_A [(h0, .inl (cI, (8, .inl f)))] s.heap.size = A at hD ⊢
  have hA : ∀ q : Nat, s.heap.size ≤ q → A q := fun q h => by rw [← hAe]; exact Or.inr h
  have hS : va_S A s.heap s.heap [] := va_S.rf
  have hl := lv_entry ([.ref h0, .int v]) (n := 4) (Nat.le_of_ble_eq_true rfl)
  rw [lg_entry_eq]
  generalize (lg_sl ([.ref h0, .int v]) ++ List.replicate (4 - (lg_sl ([.ref h0, .int v])).length) Slot.unset).toArray = ls at hl ⊢
  have hl : lv_has ls 4 [(0, .ref h0), (1, .int v)] := hl
  refine lv_iconst (v := 0) hx hb dJ7_fill_53178_0 (by decide) ?_
  refine lv_istore_n (lv' := [(2, .int 0), (0, .ref h0), (1, .int v)]) hx hb dJ7_fill_53178_1 rfl hl (by decide) rfl (fun ls hl => ?_)
  refine lv_aload_n hx hb dJ7_fill_53178_2 rfl (lv_at hl 1 rfl) ?_
  refine va_alen hx hb hK hP 0 0 rfl (ty := .int) rfl (v := 8) rfl dJ7_fill_53178_3 ?_
  refine lv_istore_n (lv' := [(3, .int 8), (2, .int 0), (0, .ref h0), (1, .int v)]) hx hb dJ7_fill_53178_4 rfl hl (by decide) rfl (fun ls hl => ?_)
  refine lv_iload_n hx hb dJ7_fill_53178_5 rfl (lv_at hl 1 rfl) ?_
  refine lv_iload_n hx hb dJ7_fill_53178_6 rfl (lv_at hl 0 rfl) ?_
  refine lv_icmp_ge (tgt := 20) hx hb dJ7_fill_53178_7 (by decide) (fun c => absurd c (by decide)) (fun _ => ?_)
  refine lv_aload_n hx hb dJ7_fill_53178_10 rfl (lv_at hl 2 rfl) ?_
  refine lv_iload_n hx hb dJ7_fill_53178_11 rfl (lv_at hl 1 rfl) ?_
  refine lv_iload_n hx hb dJ7_fill_53178_12 rfl (lv_at hl 3 rfl) ?_
  refine va_iast hx hb hK hP hD hS 0 0 rfl rfl (i := 0) (by rw [vp_in_iff]; decide) dJ7_fill_53178_13 (fun H locs hP hD hS => ?_)
  have hP : va_P D vwCl [(h0, .inl (cI, (8, .inl (upd f 0 v))))] H := hP
  have hD : va_D A [(h0, .inl (cI, (8, .inl (upd f 0 v))))] := hD
  refine lv_iinc (v := 1) (lv' := [(2, .int 1), (3, .int 8), (0, .ref h0), (1, .int v)]) hx hb dJ7_fill_53178_14 hl (k := 1) rfl (by decide) (by decide) rfl (fun ls hl => ?_)
  refine lv_goto (tgt := 5) hx hb dJ7_fill_53178_17 (by decide) ?_
  refine lv_iload_n hx hb dJ7_fill_53178_5 rfl (lv_at hl 0 rfl) ?_
  refine lv_iload_n hx hb dJ7_fill_53178_6 rfl (lv_at hl 1 rfl) ?_
  refine lv_icmp_ge (tgt := 20) hx hb dJ7_fill_53178_7 (by decide) (fun c => absurd c (by decide)) (fun _ => ?_)
  refine lv_aload_n hx hb dJ7_fill_53178_10 rfl (lv_at hl 2 rfl) ?_
  refine lv_iload_n hx hb dJ7_fill_53178_11 rfl (lv_at hl 0 rfl) ?_
  refine lv_iload_n hx hb dJ7_fill_53178_12 rfl (lv_at hl 3 rfl) ?_
  refine va_iast hx hb hK hP hD hS 0 0 rfl rfl (i := 1) (by rw [vp_in_iff]; decide) dJ7_fill_53178_13 (fun H locs hP hD hS => ?_)
  have hP : va_P D vwCl [(h0, .inl (cI, (8, .inl (upd (upd f 0 v) 1 v))))] H := hP
  have hD : va_D A [(h0, .inl (cI, (8, .inl (upd (upd f 0 v) 1 v))))] := hD
  refine lv_iinc (v := 2) (lv' := [(2, .int 2), (3, .int 8), (0, .ref h0), (1, .int v)]) hx hb dJ7_fill_53178_14 hl (k := 0) rfl (by decide) (by decide) rfl (fun ls hl => ?_)
  refine lv_goto (tgt := 5) hx hb dJ7_fill_53178_17 (by decide) ?_
  refine lv_iload_n hx hb dJ7_fill_53178_5 rfl (lv_at hl 0 rfl) ?_
  refine lv_iload_n hx hb dJ7_fill_53178_6 rfl (lv_at hl 1 rfl) ?_
  refine lv_icmp_ge (tgt := 20) hx hb dJ7_fill_53178_7 (by decide) (fun c => absurd c (by decide)) (fun _ => ?_)
  refine lv_aload_n hx hb dJ7_fill_53178_10 rfl (lv_at hl 2 rfl) ?_
  refine lv_iload_n hx hb dJ7_fill_53178_11 rfl (lv_at hl 0 rfl) ?_
  refine lv_iload_n hx hb dJ7_fill_53178_12 rfl (lv_at hl 3 rfl) ?_
  refine va_iast hx hb hK hP hD hS 0 0 rfl rfl (i := 2) (by rw [vp_in_iff]; decide) dJ7_fill_53178_13 (fun H locs hP hD hS => ?_)
  have hP : va_P D vwCl [(h0, .inl (cI, (8, .inl (upd (upd (upd f 0 v) 1 v) 2 v))))] H := hP
  have hD : va_D A [(h0, .inl (cI, (8, .inl (upd (upd (upd f 0 v) 1 v) 2 v))))] := hD
  refine lv_iinc (v := 3) (lv' := [(2, .int 3), (3, .int 8), (0, .ref h0), (1, .int v)]) hx hb dJ7_fill_53178_14 hl (k := 0) rfl (by decide) (by decide) rfl (fun ls hl => ?_)
  refine lv_goto (tgt := 5) hx hb dJ7_fill_53178_17 (by decide) ?_
  refine lv_iload_n hx hb dJ7_fill_53178_5 rfl (lv_at hl 0 rfl) ?_
  refine lv_iload_n hx hb dJ7_fill_53178_6 rfl (lv_at hl 1 rfl) ?_
  refine lv_icmp_ge (tgt := 20) hx hb dJ7_fill_53178_7 (by decide) (fun c => absurd c (by decide)) (fun _ => ?_)
  refine lv_aload_n hx hb dJ7_fill_53178_10 rfl (lv_at hl 2 rfl) ?_
  refine lv_iload_n hx hb dJ7_fill_53178_11 rfl (lv_at hl 0 rfl) ?_
  refine lv_iload_n hx hb dJ7_fill_53178_12 rfl (lv_at hl 3 rfl) ?_
  refine va_iast hx hb hK hP hD hS 0 0 rfl rfl (i := 3) (by rw [vp_in_iff]; decide) dJ7_fill_53178_13 (fun H locs hP hD hS => ?_)
  have hP : va_P D vwCl [(h0, .inl (cI, (8, .inl (upd (upd (upd (upd f 0 v) 1 v) 2 v) 3 v))))] H := hP
  have hD : va_D A [(h0, .inl (cI, (8, .inl (upd (upd (upd (upd f 0 v) 1 v) 2 v) 3 v))))] := hD
  refine lv_iinc (v := 4) (lv' := [(2, .int 4), (3, .int 8), (0, .ref h0), (1, .int v)]) hx hb dJ7_fill_53178_14 hl (k := 0) rfl (by decide) (by decide) rfl (fun ls hl => ?_)
  refine lv_goto (tgt := 5) hx hb dJ7_fill_53178_17 (by decide) ?_
  refine lv_iload_n hx hb dJ7_fill_53178_5 rfl (lv_at hl 0 rfl) ?_
  refine lv_iload_n hx hb dJ7_fill_53178_6 rfl (lv_at hl 1 rfl) ?_
  refine lv_icmp_ge (tgt := 20) hx hb dJ7_fill_53178_7 (by decide) (fun c => absurd c (by decide)) (fun _ => ?_)
  refine lv_aload_n hx hb dJ7_fill_53178_10 rfl (lv_at hl 2 rfl) ?_
  refine lv_iload_n hx hb dJ7_fill_53178_11 rfl (lv_at hl 0 rfl) ?_
  refine lv_iload_n hx hb dJ7_fill_53178_12 rfl (lv_at hl 3 rfl) ?_
  refine va_iast hx hb hK hP hD hS 0 0 rfl rfl (i := 4) (by rw [vp_in_iff]; decide) dJ7_fill_53178_13 (fun H locs hP hD hS => ?_)
  have hP : va_P D vwCl [(h0, .inl (cI, (8, .inl (upd (upd (upd (upd (upd f 0 v) 1 v) 2 v) 3 v) 4 v))))] H := hP
  have hD : va_D A [(h0, .inl (cI, (8, .inl (upd (upd (upd (upd (upd f 0 v) 1 v) 2 v) 3 v) 4 v))))] := hD
  refine lv_iinc (v := 5) (lv' := [(2, .int 5), (3, .int 8), (0, .ref h0), (1, .int v)]) hx hb dJ7_fill_53178_14 hl (k := 0) rfl (by decide) (by decide) rfl (fun ls hl => ?_)
  refine lv_goto (tgt := 5) hx hb dJ7_fill_53178_17 (by decide) ?_
  refine lv_iload_n hx hb dJ7_fill_53178_5 rfl (lv_at hl 0 rfl) ?_
  refine lv_iload_n hx hb dJ7_fill_53178_6 rfl (lv_at hl 1 rfl) ?_
  refine lv_icmp_ge (tgt := 20) hx hb dJ7_fill_53178_7 (by decide) (fun c => absurd c (by decide)) (fun _ => ?_)
  refine lv_aload_n hx hb dJ7_fill_53178_10 rfl (lv_at hl 2 rfl) ?_
  refine lv_iload_n hx hb dJ7_fill_53178_11 rfl (lv_at hl 0 rfl) ?_
  refine lv_iload_n hx hb dJ7_fill_53178_12 rfl (lv_at hl 3 rfl) ?_
  refine va_iast hx hb hK hP hD hS 0 0 rfl rfl (i := 5) (by rw [vp_in_iff]; decide) dJ7_fill_53178_13 (fun H locs hP hD hS => ?_)
  have hP : va_P D vwCl [(h0, .inl (cI, (8, .inl (upd (upd (upd (upd (upd (upd f 0 v) 1 v) 2 v) 3 v) 4 v) 5 v))))] H := hP
  have hD : va_D A [(h0, .inl (cI, (8, .inl (upd (upd (upd (upd (upd (upd f 0 v) 1 v) 2 v) 3 v) 4 v) 5 v))))] := hD
  refine lv_iinc (v := 6) (lv' := [(2, .int 6), (3, .int 8), (0, .ref h0), (1, .int v)]) hx hb dJ7_fill_53178_14 hl (k := 0) rfl (by decide) (by decide) rfl (fun ls hl => ?_)
  refine lv_goto (tgt := 5) hx hb dJ7_fill_53178_17 (by decide) ?_
  refine lv_iload_n hx hb dJ7_fill_53178_5 rfl (lv_at hl 0 rfl) ?_
  refine lv_iload_n hx hb dJ7_fill_53178_6 rfl (lv_at hl 1 rfl) ?_
  refine lv_icmp_ge (tgt := 20) hx hb dJ7_fill_53178_7 (by decide) (fun c => absurd c (by decide)) (fun _ => ?_)
  refine lv_aload_n hx hb dJ7_fill_53178_10 rfl (lv_at hl 2 rfl) ?_
  refine lv_iload_n hx hb dJ7_fill_53178_11 rfl (lv_at hl 0 rfl) ?_
  refine lv_iload_n hx hb dJ7_fill_53178_12 rfl (lv_at hl 3 rfl) ?_
  refine va_iast hx hb hK hP hD hS 0 0 rfl rfl (i := 6) (by rw [vp_in_iff]; decide) dJ7_fill_53178_13 (fun H locs hP hD hS => ?_)
  have hP : va_P D vwCl [(h0, .inl (cI, (8, .inl (upd (upd (upd (upd (upd (upd (upd f 0 v) 1 v) 2 v) 3 v) 4 v) 5 v) 6 v))))] H := hP
  have hD : va_D A [(h0, .inl (cI, (8, .inl (upd (upd (upd (upd (upd (upd (upd f 0 v) 1 v) 2 v) 3 v) 4 v) 5 v) 6 v))))] := hD
  refine lv_iinc (v := 7) (lv' := [(2, .int 7), (3, .int 8), (0, .ref h0), (1, .int v)]) hx hb dJ7_fill_53178_14 hl (k := 0) rfl (by decide) (by decide) rfl (fun ls hl => ?_)
  refine lv_goto (tgt := 5) hx hb dJ7_fill_53178_17 (by decide) ?_
  refine lv_iload_n hx hb dJ7_fill_53178_5 rfl (lv_at hl 0 rfl) ?_
  refine lv_iload_n hx hb dJ7_fill_53178_6 rfl (lv_at hl 1 rfl) ?_
  refine lv_icmp_ge (tgt := 20) hx hb dJ7_fill_53178_7 (by decide) (fun c => absurd c (by decide)) (fun _ => ?_)
  refine lv_aload_n hx hb dJ7_fill_53178_10 rfl (lv_at hl 2 rfl) ?_
  refine lv_iload_n hx hb dJ7_fill_53178_11 rfl (lv_at hl 0 rfl) ?_
  refine lv_iload_n hx hb dJ7_fill_53178_12 rfl (lv_at hl 3 rfl) ?_
  refine va_iast hx hb hK hP hD hS 0 0 rfl rfl (i := 7) (by rw [vp_in_iff]; decide) dJ7_fill_53178_13 (fun H locs hP hD hS => ?_)
  have hP : va_P D vwCl [(h0, .inl (cI, (8, .inl (upd (upd (upd (upd (upd (upd (upd (upd f 0 v) 1 v) 2 v) 3 v) 4 v) 5 v) 6 v) 7 v))))] H := hP
  have hD : va_D A [(h0, .inl (cI, (8, .inl (upd (upd (upd (upd (upd (upd (upd (upd f 0 v) 1 v) 2 v) 3 v) 4 v) 5 v) 6 v) 7 v))))] := hD
  refine lv_iinc (v := 8) (lv' := [(2, .int 8), (3, .int 8), (0, .ref h0), (1, .int v)]) hx hb dJ7_fill_53178_14 hl (k := 0) rfl (by decide) (by decide) rfl (fun ls hl => ?_)
  refine lv_goto (tgt := 5) hx hb dJ7_fill_53178_17 (by decide) ?_
  refine lv_iload_n hx hb dJ7_fill_53178_5 rfl (lv_at hl 0 rfl) ?_
  refine lv_iload_n hx hb dJ7_fill_53178_6 rfl (lv_at hl 1 rfl) ?_
  refine lv_icmp_ge (tgt := 20) hx hb dJ7_fill_53178_7 (by decide) (fun _ => ?_) (fun c => absurd (by decide) c)
  exact W.vret hx hb hr (fun t ht hW => ⟨⟨(), rfl, trivial, by rw [ht]; exact hP, hD⟩, hS.F ht⟩) hS.2.2 dJ7_fill_53178_20
set_option maxRecDepth 100000 in
set_option maxHeartbeats 4000000 in
theorem k_fill10 (l : Launch) (D : va_G) (cI cS : ClassId) (h0 sz : Nat) (f : Nat → Int32) (v : Int32) : Met l yJ7_fill_53178 (Cond.code yJ7_fill_53178 cJ7_fill_53178 4 none :: wsL_law) ({ frames := 0, cells := 0, slots := 0, locals := 0 }) (va_Pc [.ref h0, .int v] (fun U => U.heap.size = sz ∧ va_P D vwCl [(h0, .inl (cI, (10, .inl f)))] U.heap ∧ va_K D vwCl [(cI, .int), (cS, .object "NameBook$Sheet")] U ∧ va_D (fun _ => True) [(h0, .inl (cI, (10, .inl f)))])) (va_Qv (fun _ : Unit => True) (fun _ t => va_P D vwCl [(h0, .inl (cI, (10, .inl (upd (upd (upd (upd (upd (upd (upd (upd (upd (upd f 0 v) 1 v) 2 v) 3 v) 4 v) 5 v) 6 v) 7 v) 8 v) 9 v))))] t.heap ∧ va_D (va_A [(h0, .inl (cI, (10, .inl f)))] sz) [(h0, .inl (cI, (10, .inl (upd (upd (upd (upd (upd (upd (upd (upd (upd (upd f 0 v) 1 v) 2 v) 3 v) 4 v) 5 v) 6 v) 7 v) 8 v) 9 v))))]) (va_A [(h0, .inl (cI, (10, .inl f)))] sz)) 0 0 (va_A [(h0, .inl (cI, (10, .inl f)))] sz) := by
  refine Met.ofW (cc := cJ7_fill_53178) (maxL := 4) (ret := none) (by decide) rfl ?_
  intro p e s m args below meth c s₁ B hml hv
  obtain ⟨rfl, hsz, hP, hK, hD0⟩ := hv
  have hx := B.exec
  have hb := B.bytes
  have hr := B.returns
  have hts0 := atoms_spec (ws := Cond.code yJ7_fill_53178 cJ7_fill_53178 4 none :: wsL_law) B.pre
  have hts : ∀ w ∈ wsL_law, w.before _ s = true := fun w hw => hts0 w (List.mem_cons_of_mem _ hw)
  have hown : s.vm.findClass RJ7 = some m.cls := findClass_of_methodNamed B.named
  have hlocks := B.notSynchronized
  subst hsz
  have hD := hD0.self (sz := s.heap.size)
  generalize hAe : va_A [(h0, .inl (cI, (10, .inl f)))] s.heap.size = A at hD ⊢
  have hA : ∀ q : Nat, s.heap.size ≤ q → A q := fun q h => by rw [← hAe]; exact Or.inr h
  have hS : va_S A s.heap s.heap [] := va_S.rf
  have hl := lv_entry ([.ref h0, .int v]) (n := 4) (Nat.le_of_ble_eq_true rfl)
  rw [lg_entry_eq]
  generalize (lg_sl ([.ref h0, .int v]) ++ List.replicate (4 - (lg_sl ([.ref h0, .int v])).length) Slot.unset).toArray = ls at hl ⊢
  have hl : lv_has ls 4 [(0, .ref h0), (1, .int v)] := hl
  refine lv_iconst (v := 0) hx hb dJ7_fill_53178_0 (by decide) ?_
  refine lv_istore_n (lv' := [(2, .int 0), (0, .ref h0), (1, .int v)]) hx hb dJ7_fill_53178_1 rfl hl (by decide) rfl (fun ls hl => ?_)
  refine lv_aload_n hx hb dJ7_fill_53178_2 rfl (lv_at hl 1 rfl) ?_
  refine va_alen hx hb hK hP 0 0 rfl (ty := .int) rfl (v := 10) rfl dJ7_fill_53178_3 ?_
  refine lv_istore_n (lv' := [(3, .int 10), (2, .int 0), (0, .ref h0), (1, .int v)]) hx hb dJ7_fill_53178_4 rfl hl (by decide) rfl (fun ls hl => ?_)
  refine lv_iload_n hx hb dJ7_fill_53178_5 rfl (lv_at hl 1 rfl) ?_
  refine lv_iload_n hx hb dJ7_fill_53178_6 rfl (lv_at hl 0 rfl) ?_
  refine lv_icmp_ge (tgt := 20) hx hb dJ7_fill_53178_7 (by decide) (fun c => absurd c (by decide)) (fun _ => ?_)
  refine lv_aload_n hx hb dJ7_fill_53178_10 rfl (lv_at hl 2 rfl) ?_
  refine lv_iload_n hx hb dJ7_fill_53178_11 rfl (lv_at hl 1 rfl) ?_
  refine lv_iload_n hx hb dJ7_fill_53178_12 rfl (lv_at hl 3 rfl) ?_
  refine va_iast hx hb hK hP hD hS 0 0 rfl rfl (i := 0) (by rw [vp_in_iff]; decide) dJ7_fill_53178_13 (fun H locs hP hD hS => ?_)
  have hP : va_P D vwCl [(h0, .inl (cI, (10, .inl (upd f 0 v))))] H := hP
  have hD : va_D A [(h0, .inl (cI, (10, .inl (upd f 0 v))))] := hD
  refine lv_iinc (v := 1) (lv' := [(2, .int 1), (3, .int 10), (0, .ref h0), (1, .int v)]) hx hb dJ7_fill_53178_14 hl (k := 1) rfl (by decide) (by decide) rfl (fun ls hl => ?_)
  refine lv_goto (tgt := 5) hx hb dJ7_fill_53178_17 (by decide) ?_
  refine lv_iload_n hx hb dJ7_fill_53178_5 rfl (lv_at hl 0 rfl) ?_
  refine lv_iload_n hx hb dJ7_fill_53178_6 rfl (lv_at hl 1 rfl) ?_
  refine lv_icmp_ge (tgt := 20) hx hb dJ7_fill_53178_7 (by decide) (fun c => absurd c (by decide)) (fun _ => ?_)
  refine lv_aload_n hx hb dJ7_fill_53178_10 rfl (lv_at hl 2 rfl) ?_
  refine lv_iload_n hx hb dJ7_fill_53178_11 rfl (lv_at hl 0 rfl) ?_
  refine lv_iload_n hx hb dJ7_fill_53178_12 rfl (lv_at hl 3 rfl) ?_
  refine va_iast hx hb hK hP hD hS 0 0 rfl rfl (i := 1) (by rw [vp_in_iff]; decide) dJ7_fill_53178_13 (fun H locs hP hD hS => ?_)
  have hP : va_P D vwCl [(h0, .inl (cI, (10, .inl (upd (upd f 0 v) 1 v))))] H := hP
  have hD : va_D A [(h0, .inl (cI, (10, .inl (upd (upd f 0 v) 1 v))))] := hD
  refine lv_iinc (v := 2) (lv' := [(2, .int 2), (3, .int 10), (0, .ref h0), (1, .int v)]) hx hb dJ7_fill_53178_14 hl (k := 0) rfl (by decide) (by decide) rfl (fun ls hl => ?_)
  refine lv_goto (tgt := 5) hx hb dJ7_fill_53178_17 (by decide) ?_
  refine lv_iload_n hx hb dJ7_fill_53178_5 rfl (lv_at hl 0 rfl) ?_
  refine lv_iload_n hx hb dJ7_fill_53178_6 rfl (lv_at hl 1 rfl) ?_
  refine lv_icmp_ge (tgt := 20) hx hb dJ7_fill_53178_7 (by decide) (fun c => absurd c (by decide)) (fun _ => ?_)
  refine lv_aload_n hx hb dJ7_fill_53178_10 rfl (lv_at hl 2 rfl) ?_
  refine lv_iload_n hx hb dJ7_fill_53178_11 rfl (lv_at hl 0 rfl) ?_
  refine lv_iload_n hx hb dJ7_fill_53178_12 rfl (lv_at hl 3 rfl) ?_
  refine va_iast hx hb hK hP hD hS 0 0 rfl rfl (i := 2) (by rw [vp_in_iff]; decide) dJ7_fill_53178_13 (fun H locs hP hD hS => ?_)
  have hP : va_P D vwCl [(h0, .inl (cI, (10, .inl (upd (upd (upd f 0 v) 1 v) 2 v))))] H := hP
  have hD : va_D A [(h0, .inl (cI, (10, .inl (upd (upd (upd f 0 v) 1 v) 2 v))))] := hD
  refine lv_iinc (v := 3) (lv' := [(2, .int 3), (3, .int 10), (0, .ref h0), (1, .int v)]) hx hb dJ7_fill_53178_14 hl (k := 0) rfl (by decide) (by decide) rfl (fun ls hl => ?_)
  refine lv_goto (tgt := 5) hx hb dJ7_fill_53178_17 (by decide) ?_
  refine lv_iload_n hx hb dJ7_fill_53178_5 rfl (lv_at hl 0 rfl) ?_
  refine lv_iload_n hx hb dJ7_fill_53178_6 rfl (lv_at hl 1 rfl) ?_
  refine lv_icmp_ge (tgt := 20) hx hb dJ7_fill_53178_7 (by decide) (fun c => absurd c (by decide)) (fun _ => ?_)
  refine lv_aload_n hx hb dJ7_fill_53178_10 rfl (lv_at hl 2 rfl) ?_
  refine lv_iload_n hx hb dJ7_fill_53178_11 rfl (lv_at hl 0 rfl) ?_
  refine lv_iload_n hx hb dJ7_fill_53178_12 rfl (lv_at hl 3 rfl) ?_
  refine va_iast hx hb hK hP hD hS 0 0 rfl rfl (i := 3) (by rw [vp_in_iff]; decide) dJ7_fill_53178_13 (fun H locs hP hD hS => ?_)
  have hP : va_P D vwCl [(h0, .inl (cI, (10, .inl (upd (upd (upd (upd f 0 v) 1 v) 2 v) 3 v))))] H := hP
  have hD : va_D A [(h0, .inl (cI, (10, .inl (upd (upd (upd (upd f 0 v) 1 v) 2 v) 3 v))))] := hD
  refine lv_iinc (v := 4) (lv' := [(2, .int 4), (3, .int 10), (0, .ref h0), (1, .int v)]) hx hb dJ7_fill_53178_14 hl (k := 0) rfl (by decide) (by decide) rfl (fun ls hl => ?_)
  refine lv_goto (tgt := 5) hx hb dJ7_fill_53178_17 (by decide) ?_
  refine lv_iload_n hx hb dJ7_fill_53178_5 rfl (lv_at hl 0 rfl) ?_
  refine lv_iload_n hx hb dJ7_fill_53178_6 rfl (lv_at hl 1 rfl) ?_
  refine lv_icmp_ge (tgt := 20) hx hb dJ7_fill_53178_7 (by decide) (fun c => absurd c (by decide)) (fun _ => ?_)
  refine lv_aload_n hx hb dJ7_fill_53178_10 rfl (lv_at hl 2 rfl) ?_
  refine lv_iload_n hx hb dJ7_fill_53178_11 rfl (lv_at hl 0 rfl) ?_
  refine lv_iload_n hx hb dJ7_fill_53178_12 rfl (lv_at hl 3 rfl) ?_
  refine va_iast hx hb hK hP hD hS 0 0 rfl rfl (i := 4) (by rw [vp_in_iff]; decide) dJ7_fill_53178_13 (fun H locs hP hD hS => ?_)
  have hP : va_P D vwCl [(h0, .inl (cI, (10, .inl (upd (upd (upd (upd (upd f 0 v) 1 v) 2 v) 3 v) 4 v))))] H := hP
  have hD : va_D A [(h0, .inl (cI, (10, .inl (upd (upd (upd (upd (upd f 0 v) 1 v) 2 v) 3 v) 4 v))))] := hD
  refine lv_iinc (v := 5) (lv' := [(2, .int 5), (3, .int 10), (0, .ref h0), (1, .int v)]) hx hb dJ7_fill_53178_14 hl (k := 0) rfl (by decide) (by decide) rfl (fun ls hl => ?_)
  refine lv_goto (tgt := 5) hx hb dJ7_fill_53178_17 (by decide) ?_
  refine lv_iload_n hx hb dJ7_fill_53178_5 rfl (lv_at hl 0 rfl) ?_
  refine lv_iload_n hx hb dJ7_fill_53178_6 rfl (lv_at hl 1 rfl) ?_
  refine lv_icmp_ge (tgt := 20) hx hb dJ7_fill_53178_7 (by decide) (fun c => absurd c (by decide)) (fun _ => ?_)
  refine lv_aload_n hx hb dJ7_fill_53178_10 rfl (lv_at hl 2 rfl) ?_
  refine lv_iload_n hx hb dJ7_fill_53178_11 rfl (lv_at hl 0 rfl) ?_
  refine lv_iload_n hx hb dJ7_fill_53178_12 rfl (lv_at hl 3 rfl) ?_
  refine va_iast hx hb hK hP hD hS 0 0 rfl rfl (i := 5) (by rw [vp_in_iff]; decide) dJ7_fill_53178_13 (fun H locs hP hD hS => ?_)
  have hP : va_P D vwCl [(h0, .inl (cI, (10, .inl (upd (upd (upd (upd (upd (upd f 0 v) 1 v) 2 v) 3 v) 4 v) 5 v))))] H := hP
  have hD : va_D A [(h0, .inl (cI, (10, .inl (upd (upd (upd (upd (upd (upd f 0 v) 1 v) 2 v) 3 v) 4 v) 5 v))))] := hD
  refine lv_iinc (v := 6) (lv' := [(2, .int 6), (3, .int 10), (0, .ref h0), (1, .int v)]) hx hb dJ7_fill_53178_14 hl (k := 0) rfl (by decide) (by decide) rfl (fun ls hl => ?_)
  refine lv_goto (tgt := 5) hx hb dJ7_fill_53178_17 (by decide) ?_
  refine lv_iload_n hx hb dJ7_fill_53178_5 rfl (lv_at hl 0 rfl) ?_
  refine lv_iload_n hx hb dJ7_fill_53178_6 rfl (lv_at hl 1 rfl) ?_
  refine lv_icmp_ge (tgt := 20) hx hb dJ7_fill_53178_7 (by decide) (fun c => absurd c (by decide)) (fun _ => ?_)
  refine lv_aload_n hx hb dJ7_fill_53178_10 rfl (lv_at hl 2 rfl) ?_
  refine lv_iload_n hx hb dJ7_fill_53178_11 rfl (lv_at hl 0 rfl) ?_
  refine lv_iload_n hx hb dJ7_fill_53178_12 rfl (lv_at hl 3 rfl) ?_
  refine va_iast hx hb hK hP hD hS 0 0 rfl rfl (i := 6) (by rw [vp_in_iff]; decide) dJ7_fill_53178_13 (fun H locs hP hD hS => ?_)
  have hP : va_P D vwCl [(h0, .inl (cI, (10, .inl (upd (upd (upd (upd (upd (upd (upd f 0 v) 1 v) 2 v) 3 v) 4 v) 5 v) 6 v))))] H := hP
  have hD : va_D A [(h0, .inl (cI, (10, .inl (upd (upd (upd (upd (upd (upd (upd f 0 v) 1 v) 2 v) 3 v) 4 v) 5 v) 6 v))))] := hD
  refine lv_iinc (v := 7) (lv' := [(2, .int 7), (3, .int 10), (0, .ref h0), (1, .int v)]) hx hb dJ7_fill_53178_14 hl (k := 0) rfl (by decide) (by decide) rfl (fun ls hl => ?_)
  refine lv_goto (tgt := 5) hx hb dJ7_fill_53178_17 (by decide) ?_
  refine lv_iload_n hx hb dJ7_fill_53178_5 rfl (lv_at hl 0 rfl) ?_
  refine lv_iload_n hx hb dJ7_fill_53178_6 rfl (lv_at hl 1 rfl) ?_
  refine lv_icmp_ge (tgt := 20) hx hb dJ7_fill_53178_7 (by decide) (fun c => absurd c (by decide)) (fun _ => ?_)
  refine lv_aload_n hx hb dJ7_fill_53178_10 rfl (lv_at hl 2 rfl) ?_
  refine lv_iload_n hx hb dJ7_fill_53178_11 rfl (lv_at hl 0 rfl) ?_
  refine lv_iload_n hx hb dJ7_fill_53178_12 rfl (lv_at hl 3 rfl) ?_
  refine va_iast hx hb hK hP hD hS 0 0 rfl rfl (i := 7) (by rw [vp_in_iff]; decide) dJ7_fill_53178_13 (fun H locs hP hD hS => ?_)
  have hP : va_P D vwCl [(h0, .inl (cI, (10, .inl (upd (upd (upd (upd (upd (upd (upd (upd f 0 v) 1 v) 2 v) 3 v) 4 v) 5 v) 6 v) 7 v))))] H := hP
  have hD : va_D A [(h0, .inl (cI, (10, .inl (upd (upd (upd (upd (upd (upd (upd (upd f 0 v) 1 v) 2 v) 3 v) 4 v) 5 v) 6 v) 7 v))))] := hD
  refine lv_iinc (v := 8) (lv' := [(2, .int 8), (3, .int 10), (0, .ref h0), (1, .int v)]) hx hb dJ7_fill_53178_14 hl (k := 0) rfl (by decide) (by decide) rfl (fun ls hl => ?_)
  refine lv_goto (tgt := 5) hx hb dJ7_fill_53178_17 (by decide) ?_
  refine lv_iload_n hx hb dJ7_fill_53178_5 rfl (lv_at hl 0 rfl) ?_
  refine lv_iload_n hx hb dJ7_fill_53178_6 rfl (lv_at hl 1 rfl) ?_
  refine lv_icmp_ge (tgt := 20) hx hb dJ7_fill_53178_7 (by decide) (fun c => absurd c (by decide)) (fun _ => ?_)
  refine lv_aload_n hx hb dJ7_fill_53178_10 rfl (lv_at hl 2 rfl) ?_
  refine lv_iload_n hx hb dJ7_fill_53178_11 rfl (lv_at hl 0 rfl) ?_
  refine lv_iload_n hx hb dJ7_fill_53178_12 rfl (lv_at hl 3 rfl) ?_
  refine va_iast hx hb hK hP hD hS 0 0 rfl rfl (i := 8) (by rw [vp_in_iff]; decide) dJ7_fill_53178_13 (fun H locs hP hD hS => ?_)
  have hP : va_P D vwCl [(h0, .inl (cI, (10, .inl (upd (upd (upd (upd (upd (upd (upd (upd (upd f 0 v) 1 v) 2 v) 3 v) 4 v) 5 v) 6 v) 7 v) 8 v))))] H := hP
  have hD : va_D A [(h0, .inl (cI, (10, .inl (upd (upd (upd (upd (upd (upd (upd (upd (upd f 0 v) 1 v) 2 v) 3 v) 4 v) 5 v) 6 v) 7 v) 8 v))))] := hD
  refine lv_iinc (v := 9) (lv' := [(2, .int 9), (3, .int 10), (0, .ref h0), (1, .int v)]) hx hb dJ7_fill_53178_14 hl (k := 0) rfl (by decide) (by decide) rfl (fun ls hl => ?_)
  refine lv_goto (tgt := 5) hx hb dJ7_fill_53178_17 (by decide) ?_
  refine lv_iload_n hx hb dJ7_fill_53178_5 rfl (lv_at hl 0 rfl) ?_
  refine lv_iload_n hx hb dJ7_fill_53178_6 rfl (lv_at hl 1 rfl) ?_
  refine lv_icmp_ge (tgt := 20) hx hb dJ7_fill_53178_7 (by decide) (fun c => absurd c (by decide)) (fun _ => ?_)
  refine lv_aload_n hx hb dJ7_fill_53178_10 rfl (lv_at hl 2 rfl) ?_
  refine lv_iload_n hx hb dJ7_fill_53178_11 rfl (lv_at hl 0 rfl) ?_
  refine lv_iload_n hx hb dJ7_fill_53178_12 rfl (lv_at hl 3 rfl) ?_
  refine va_iast hx hb hK hP hD hS 0 0 rfl rfl (i := 9) (by rw [vp_in_iff]; decide) dJ7_fill_53178_13 (fun H locs hP hD hS => ?_)
  have hP : va_P D vwCl [(h0, .inl (cI, (10, .inl (upd (upd (upd (upd (upd (upd (upd (upd (upd (upd f 0 v) 1 v) 2 v) 3 v) 4 v) 5 v) 6 v) 7 v) 8 v) 9 v))))] H := hP
  have hD : va_D A [(h0, .inl (cI, (10, .inl (upd (upd (upd (upd (upd (upd (upd (upd (upd (upd f 0 v) 1 v) 2 v) 3 v) 4 v) 5 v) 6 v) 7 v) 8 v) 9 v))))] := hD
  refine lv_iinc (v := 10) (lv' := [(2, .int 10), (3, .int 10), (0, .ref h0), (1, .int v)]) hx hb dJ7_fill_53178_14 hl (k := 0) rfl (by decide) (by decide) rfl (fun ls hl => ?_)
  refine lv_goto (tgt := 5) hx hb dJ7_fill_53178_17 (by decide) ?_
  refine lv_iload_n hx hb dJ7_fill_53178_5 rfl (lv_at hl 0 rfl) ?_
  refine lv_iload_n hx hb dJ7_fill_53178_6 rfl (lv_at hl 1 rfl) ?_
  refine lv_icmp_ge (tgt := 20) hx hb dJ7_fill_53178_7 (by decide) (fun _ => ?_) (fun c => absurd (by decide) c)
  exact W.vret hx hb hr (fun t ht hW => ⟨⟨(), rfl, trivial, by rw [ht]; exact hP, hD⟩, hS.F ht⟩) hS.2.2 dJ7_fill_53178_20
abbrev kw_X0 (cI cS : ClassId) (h0 : Nat) (u : List Nat) : va_W := [(h0, .inr (0, [.int 0, .int 1, .int 0, .int 0, .ref (u.getD 0 0), .ref (u.getD 1 0), .ref (u.getD 2 0), .ref (u.getD 3 0), .ref (u.getD 4 0), .ref (u.getD 5 0), .ref (u.getD 6 0), .ref (u.getD 7 0), .ref (u.getD 8 0), .ref (u.getD 9 0), .ref (u.getD 10 0)])), ((u.getD 1 0), .inl (cI, (8, .inl (fun _ => 0)))), ((u.getD 2 0), .inl (cI, (20, .inl (fun _ => 0)))), ((u.getD 3 0), .inl (cI, (20, .inl (fun _ => 0)))), ((u.getD 4 0), .inl (cI, (20, .inl (fun _ => 0)))), ((u.getD 5 0), .inl (cI, (20, .inl (fun _ => 0)))), ((u.getD 6 0), .inl (cI, (8, .inl (fun _ => 0)))), ((u.getD 7 0), .inl (cI, (8, .inl (fun _ => 0)))), ((u.getD 8 0), .inl (cI, (8, .inl (fun _ => 0)))), ((u.getD 9 0), .inl (cI, (8, .inl (fun _ => 0)))), ((u.getD 0 0), .inl (cI, (8, .inl (upd (upd (upd (upd (upd (upd (upd (upd (fun _ => 0) 0 10) 1 10) 2 10) 3 10) 4 10) 5 10) 6 10) 7 10)))), ((u.getD 10 0), .inl (cI, (10, .inl (upd (upd (upd (upd (upd (upd (upd (upd (upd (upd (fun _ => 0) 0 (-1)) 1 (-1)) 2 (-1)) 3 (-1)) 4 (-1)) 5 (-1)) 6 (-1)) 7 (-1)) 8 (-1)) 9 (-1)))))]
set_option maxRecDepth 100000 in
set_option maxHeartbeats 8000000 in
theorem k_X0_init (l : Launch) (D : va_G) (cI cS : ClassId) (h0 sz : Nat) : Met l yX0_init (Cond.code yX0_init cX0_init 1 none :: wsL_law) ({ frames := 1, cells := 11, slots := 138, locals := 23 }) (va_Pc [.ref h0] (fun U => U.heap.size = sz ∧ va_P D vwCl [(h0, .inr (0, [.int 0, .int 0, .int 0, .int 0, .null, .null, .null, .null, .null, .null, .null, .null, .null, .null, .null]))] U.heap ∧ va_K D vwCl [(cI, .int), (cS, .object "NameBook$Sheet")] U ∧ va_D (fun _ => True) [(h0, .inr (0, [.int 0, .int 0, .int 0, .int 0, .null, .null, .null, .null, .null, .null, .null, .null, .null, .null, .null]))])) (va_Qv (fun _ : List Nat => True) (fun u t => va_P D vwCl (kw_X0 cI cS h0 u) t.heap ∧ va_D (va_A [(h0, .inr (0, [.int 0, .int 0, .int 0, .int 0, .null, .null, .null, .null, .null, .null, .null, .null, .null, .null, .null]))] sz) (kw_X0 cI cS h0 u)) (va_A [(h0, .inr (0, [.int 0, .int 0, .int 0, .int 0, .null, .null, .null, .null, .null, .null, .null, .null, .null, .null, .null]))] sz)) 11 138 (va_A [(h0, .inr (0, [.int 0, .int 0, .int 0, .int 0, .null, .null, .null, .null, .null, .null, .null, .null, .null, .null, .null]))] sz) := by
  refine Met.ofW (cc := cX0_init) (maxL := 1) (ret := none) (by decide) rfl ?_
  intro p e s m args below meth c s₁ B hml hv
  obtain ⟨rfl, hsz, hP, hK, hD0⟩ := hv
  have hx := B.exec
  have hb := B.bytes
  have hr := B.returns
  have hts0 := atoms_spec (ws := Cond.code yX0_init cX0_init 1 none :: wsL_law) B.pre
  have hts : ∀ w ∈ wsL_law, w.before _ s = true := fun w hw => hts0 w (List.mem_cons_of_mem _ hw)
  have hown : s.vm.findClass RX0 = some m.cls := findClass_of_methodNamed B.named
  have hlocks := B.notSynchronized
  have hin : meth.name = "<init>" := (name_of_methodNamed B.named B.method).1
  subst hsz
  have hD := hD0.self (sz := s.heap.size)
  generalize hAe : va_A [(h0, .inr (0, [.int 0, .int 0, .int 0, .int 0, .null, .null, .null, .null, .null, .null, .null, .null, .null, .null, .null]))] s.heap.size = A at hD ⊢
  have hA : ∀ q : Nat, s.heap.size ≤ q → A q := fun q h => by rw [← hAe]; exact Or.inr h
  have hS : va_S A s.heap s.heap [] := va_S.rf
  have hl := lv_entry ([.ref h0]) (n := 1) (Nat.le_of_ble_eq_true rfl)
  rw [lg_entry_eq]
  generalize (lg_sl ([.ref h0]) ++ List.replicate (1 - (lg_sl ([.ref h0])).length) Slot.unset).toArray = ls at hl ⊢
  have hl : lv_has ls 1 [(0, .ref h0)] := hl
  refine lv_aload_n hx hb dX0_init_0 rfl (lv_at hl 0 rfl) ?_
  refine W.objInit hx hb hown (hts _ (ch_2 _ (List.mem_of_getElem? (l := wsL_law_r2) (i := 15) rfl))) (hts _ (ch_1 _ (List.mem_of_getElem? (l := wsL_law_r1) (i := 10) rfl))) (hts _ (ch_1 _ (List.mem_of_getElem? (l := wsL_law_r1) (i := 11) rfl))) rfl (by rw [hml]; exact hl.1) rfl dX0_init_1 (Nat.le_of_ble_eq_true rfl) (Nat.le_of_ble_eq_true rfl) ?_
  refine W.eq (g2 := F0 m 4 ls []) rfl ?_
  refine lv_aload_n hx hb dX0_init_4 rfl (lv_at hl 0 rfl) ?_
  refine lv_iconst (v := 1) hx hb dX0_init_5 (by decide) ?_
  refine va_put (D := D) (ci := 0) (v := .int 1) (ty := .int) (C := RX0) (T := TX0) (N := 15) hx hb hts inlX0 tyX0 tyX0_ok nmX0 hown hK hP hD hS 0 rfl rfl 1 (by decide) (hts _ (ch_2 _ (List.mem_of_getElem? (l := wsL_law_r2) (i := 16) rfl))) (fun _ h9 => h9) rfl (by decide +kernel) rfl rfl (Nat.le_of_ble_eq_true rfl) dX0_init_6 (fun H locs hP hD hS => ?_)
  have hP : va_P D vwCl [(h0, .inr (0, [.int 0, .int 1, .int 0, .int 0, .null, .null, .null, .null, .null, .null, .null, .null, .null, .null, .null]))] H := hP
  have hD : va_D A [(h0, .inr (0, [.int 0, .int 1, .int 0, .int 0, .null, .null, .null, .null, .null, .null, .null, .null, .null, .null, .null]))] := hD
  refine lv_aload_n hx hb dX0_init_9 rfl (lv_at hl 0 rfl) ?_
  refine lv_bipush (v := 8) hx hb dX0_init_10 (by decide) ?_
  refine zn_newa hx hb (hts _ (ch_2 _ (List.mem_of_getElem? (l := wsL_law_r2) (i := 8) rfl))) hK hP hD hS hA (n := 8) (N := 8) (by decide) (by decide) (by decide) (Nat.le_of_ble_eq_true rfl) (Nat.le_of_ble_eq_true rfl) dX0_init_12 (fun q12 H hP hD hS => ?_)
  have hP : va_P D vwCl [(h0, .inr (0, [.int 0, .int 1, .int 0, .int 0, .null, .null, .null, .null, .null, .null, .null, .null, .null, .null, .null])), (q12, .inl (cI, (8, .inl (fun _ => 0))))] H := hP
  have hD : va_D A [(h0, .inr (0, [.int 0, .int 1, .int 0, .int 0, .null, .null, .null, .null, .null, .null, .null, .null, .null, .null, .null])), (q12, .inl (cI, (8, .inl (fun _ => 0))))] := hD
  refine va_putF (D := D) (ci := 0) (v := .ref q12) (ty := .array .int) (C := RX0) (T := TX0) (N := 15) hx hb hts inlX0 tyX0 tyX0_ok nmX0 hown hK hP hD hS 0 rfl rfl 4 (by decide) (hts _ (ch_2 _ (List.mem_of_getElem? (l := wsL_law_r2) (i := 17) rfl))) (fun _ h9 => h9) rfl hin rfl (by decide +kernel) rfl rfl (Nat.le_of_ble_eq_true rfl) dX0_init_14 (fun H locs hP hD hS => ?_)
  have hP : va_P D vwCl [(h0, .inr (0, [.int 0, .int 1, .int 0, .int 0, .ref q12, .null, .null, .null, .null, .null, .null, .null, .null, .null, .null])), (q12, .inl (cI, (8, .inl (fun _ => 0))))] H := hP
  have hD : va_D A [(h0, .inr (0, [.int 0, .int 1, .int 0, .int 0, .ref q12, .null, .null, .null, .null, .null, .null, .null, .null, .null, .null])), (q12, .inl (cI, (8, .inl (fun _ => 0))))] := hD
  refine lv_aload_n hx hb dX0_init_17 rfl (lv_at hl 0 rfl) ?_
  refine lv_bipush (v := 8) hx hb dX0_init_18 (by decide) ?_
  refine zn_newa hx hb (hts _ (ch_2 _ (List.mem_of_getElem? (l := wsL_law_r2) (i := 8) rfl))) hK hP hD hS hA (n := 8) (N := 8) (by decide) (by decide) (by decide) (Nat.le_of_ble_eq_true rfl) (Nat.le_of_ble_eq_true rfl) dX0_init_20 (fun q20 H hP hD hS => ?_)
  have hP : va_P D vwCl [(h0, .inr (0, [.int 0, .int 1, .int 0, .int 0, .ref q12, .null, .null, .null, .null, .null, .null, .null, .null, .null, .null])), (q12, .inl (cI, (8, .inl (fun _ => 0)))), (q20, .inl (cI, (8, .inl (fun _ => 0))))] H := hP
  have hD : va_D A [(h0, .inr (0, [.int 0, .int 1, .int 0, .int 0, .ref q12, .null, .null, .null, .null, .null, .null, .null, .null, .null, .null])), (q12, .inl (cI, (8, .inl (fun _ => 0)))), (q20, .inl (cI, (8, .inl (fun _ => 0))))] := hD
  refine va_putF (D := D) (ci := 0) (v := .ref q20) (ty := .array .int) (C := RX0) (T := TX0) (N := 15) hx hb hts inlX0 tyX0 tyX0_ok nmX0 hown hK hP hD hS 0 rfl rfl 5 (by decide) (hts _ (ch_2 _ (List.mem_of_getElem? (l := wsL_law_r2) (i := 18) rfl))) (fun _ h9 => h9) rfl hin rfl (by decide +kernel) rfl rfl (Nat.le_of_ble_eq_true rfl) dX0_init_22 (fun H locs hP hD hS => ?_)
  have hP : va_P D vwCl [(h0, .inr (0, [.int 0, .int 1, .int 0, .int 0, .ref q12, .ref q20, .null, .null, .null, .null, .null, .null, .null, .null, .null])), (q12, .inl (cI, (8, .inl (fun _ => 0)))), (q20, .inl (cI, (8, .inl (fun _ => 0))))] H := hP
  have hD : va_D A [(h0, .inr (0, [.int 0, .int 1, .int 0, .int 0, .ref q12, .ref q20, .null, .null, .null, .null, .null, .null, .null, .null, .null])), (q12, .inl (cI, (8, .inl (fun _ => 0)))), (q20, .inl (cI, (8, .inl (fun _ => 0))))] := hD
  refine lv_aload_n hx hb dX0_init_25 rfl (lv_at hl 0 rfl) ?_
  refine lv_bipush (v := 20) hx hb dX0_init_26 (by decide) ?_
  refine zn_newa hx hb (hts _ (ch_2 _ (List.mem_of_getElem? (l := wsL_law_r2) (i := 8) rfl))) hK hP hD hS hA (n := 20) (N := 20) (by decide) (by decide) (by decide) (Nat.le_of_ble_eq_true rfl) (Nat.le_of_ble_eq_true rfl) dX0_init_28 (fun q28 H hP hD hS => ?_)
  have hP : va_P D vwCl [(h0, .inr (0, [.int 0, .int 1, .int 0, .int 0, .ref q12, .ref q20, .null, .null, .null, .null, .null, .null, .null, .null, .null])), (q12, .inl (cI, (8, .inl (fun _ => 0)))), (q20, .inl (cI, (8, .inl (fun _ => 0)))), (q28, .inl (cI, (20, .inl (fun _ => 0))))] H := hP
  have hD : va_D A [(h0, .inr (0, [.int 0, .int 1, .int 0, .int 0, .ref q12, .ref q20, .null, .null, .null, .null, .null, .null, .null, .null, .null])), (q12, .inl (cI, (8, .inl (fun _ => 0)))), (q20, .inl (cI, (8, .inl (fun _ => 0)))), (q28, .inl (cI, (20, .inl (fun _ => 0))))] := hD
  refine va_putF (D := D) (ci := 0) (v := .ref q28) (ty := .array .int) (C := RX0) (T := TX0) (N := 15) hx hb hts inlX0 tyX0 tyX0_ok nmX0 hown hK hP hD hS 0 rfl rfl 6 (by decide) (hts _ (ch_2 _ (List.mem_of_getElem? (l := wsL_law_r2) (i := 19) rfl))) (fun _ h9 => h9) rfl hin rfl (by decide +kernel) rfl rfl (Nat.le_of_ble_eq_true rfl) dX0_init_30 (fun H locs hP hD hS => ?_)
  have hP : va_P D vwCl [(h0, .inr (0, [.int 0, .int 1, .int 0, .int 0, .ref q12, .ref q20, .ref q28, .null, .null, .null, .null, .null, .null, .null, .null])), (q12, .inl (cI, (8, .inl (fun _ => 0)))), (q20, .inl (cI, (8, .inl (fun _ => 0)))), (q28, .inl (cI, (20, .inl (fun _ => 0))))] H := hP
  have hD : va_D A [(h0, .inr (0, [.int 0, .int 1, .int 0, .int 0, .ref q12, .ref q20, .ref q28, .null, .null, .null, .null, .null, .null, .null, .null])), (q12, .inl (cI, (8, .inl (fun _ => 0)))), (q20, .inl (cI, (8, .inl (fun _ => 0)))), (q28, .inl (cI, (20, .inl (fun _ => 0))))] := hD
  refine lv_aload_n hx hb dX0_init_33 rfl (lv_at hl 0 rfl) ?_
  refine lv_bipush (v := 20) hx hb dX0_init_34 (by decide) ?_
  refine zn_newa hx hb (hts _ (ch_2 _ (List.mem_of_getElem? (l := wsL_law_r2) (i := 8) rfl))) hK hP hD hS hA (n := 20) (N := 20) (by decide) (by decide) (by decide) (Nat.le_of_ble_eq_true rfl) (Nat.le_of_ble_eq_true rfl) dX0_init_36 (fun q36 H hP hD hS => ?_)
  have hP : va_P D vwCl [(h0, .inr (0, [.int 0, .int 1, .int 0, .int 0, .ref q12, .ref q20, .ref q28, .null, .null, .null, .null, .null, .null, .null, .null])), (q12, .inl (cI, (8, .inl (fun _ => 0)))), (q20, .inl (cI, (8, .inl (fun _ => 0)))), (q28, .inl (cI, (20, .inl (fun _ => 0)))), (q36, .inl (cI, (20, .inl (fun _ => 0))))] H := hP
  have hD : va_D A [(h0, .inr (0, [.int 0, .int 1, .int 0, .int 0, .ref q12, .ref q20, .ref q28, .null, .null, .null, .null, .null, .null, .null, .null])), (q12, .inl (cI, (8, .inl (fun _ => 0)))), (q20, .inl (cI, (8, .inl (fun _ => 0)))), (q28, .inl (cI, (20, .inl (fun _ => 0)))), (q36, .inl (cI, (20, .inl (fun _ => 0))))] := hD
  refine va_putF (D := D) (ci := 0) (v := .ref q36) (ty := .array .int) (C := RX0) (T := TX0) (N := 15) hx hb hts inlX0 tyX0 tyX0_ok nmX0 hown hK hP hD hS 0 rfl rfl 7 (by decide) (hts _ (ch_2 _ (List.mem_of_getElem? (l := wsL_law_r2) (i := 20) rfl))) (fun _ h9 => h9) rfl hin rfl (by decide +kernel) rfl rfl (Nat.le_of_ble_eq_true rfl) dX0_init_38 (fun H locs hP hD hS => ?_)
  have hP : va_P D vwCl [(h0, .inr (0, [.int 0, .int 1, .int 0, .int 0, .ref q12, .ref q20, .ref q28, .ref q36, .null, .null, .null, .null, .null, .null, .null])), (q12, .inl (cI, (8, .inl (fun _ => 0)))), (q20, .inl (cI, (8, .inl (fun _ => 0)))), (q28, .inl (cI, (20, .inl (fun _ => 0)))), (q36, .inl (cI, (20, .inl (fun _ => 0))))] H := hP
  have hD : va_D A [(h0, .inr (0, [.int 0, .int 1, .int 0, .int 0, .ref q12, .ref q20, .ref q28, .ref q36, .null, .null, .null, .null, .null, .null, .null])), (q12, .inl (cI, (8, .inl (fun _ => 0)))), (q20, .inl (cI, (8, .inl (fun _ => 0)))), (q28, .inl (cI, (20, .inl (fun _ => 0)))), (q36, .inl (cI, (20, .inl (fun _ => 0))))] := hD
  refine lv_aload_n hx hb dX0_init_41 rfl (lv_at hl 0 rfl) ?_
  refine lv_bipush (v := 20) hx hb dX0_init_42 (by decide) ?_
  refine zn_newa hx hb (hts _ (ch_2 _ (List.mem_of_getElem? (l := wsL_law_r2) (i := 8) rfl))) hK hP hD hS hA (n := 20) (N := 20) (by decide) (by decide) (by decide) (Nat.le_of_ble_eq_true rfl) (Nat.le_of_ble_eq_true rfl) dX0_init_44 (fun q44 H hP hD hS => ?_)
  have hP : va_P D vwCl [(h0, .inr (0, [.int 0, .int 1, .int 0, .int 0, .ref q12, .ref q20, .ref q28, .ref q36, .null, .null, .null, .null, .null, .null, .null])), (q12, .inl (cI, (8, .inl (fun _ => 0)))), (q20, .inl (cI, (8, .inl (fun _ => 0)))), (q28, .inl (cI, (20, .inl (fun _ => 0)))), (q36, .inl (cI, (20, .inl (fun _ => 0)))), (q44, .inl (cI, (20, .inl (fun _ => 0))))] H := hP
  have hD : va_D A [(h0, .inr (0, [.int 0, .int 1, .int 0, .int 0, .ref q12, .ref q20, .ref q28, .ref q36, .null, .null, .null, .null, .null, .null, .null])), (q12, .inl (cI, (8, .inl (fun _ => 0)))), (q20, .inl (cI, (8, .inl (fun _ => 0)))), (q28, .inl (cI, (20, .inl (fun _ => 0)))), (q36, .inl (cI, (20, .inl (fun _ => 0)))), (q44, .inl (cI, (20, .inl (fun _ => 0))))] := hD
  refine va_putF (D := D) (ci := 0) (v := .ref q44) (ty := .array .int) (C := RX0) (T := TX0) (N := 15) hx hb hts inlX0 tyX0 tyX0_ok nmX0 hown hK hP hD hS 0 rfl rfl 8 (by decide) (hts _ (ch_2 _ (List.mem_of_getElem? (l := wsL_law_r2) (i := 21) rfl))) (fun _ h9 => h9) rfl hin rfl (by decide +kernel) rfl rfl (Nat.le_of_ble_eq_true rfl) dX0_init_46 (fun H locs hP hD hS => ?_)
  have hP : va_P D vwCl [(h0, .inr (0, [.int 0, .int 1, .int 0, .int 0, .ref q12, .ref q20, .ref q28, .ref q36, .ref q44, .null, .null, .null, .null, .null, .null])), (q12, .inl (cI, (8, .inl (fun _ => 0)))), (q20, .inl (cI, (8, .inl (fun _ => 0)))), (q28, .inl (cI, (20, .inl (fun _ => 0)))), (q36, .inl (cI, (20, .inl (fun _ => 0)))), (q44, .inl (cI, (20, .inl (fun _ => 0))))] H := hP
  have hD : va_D A [(h0, .inr (0, [.int 0, .int 1, .int 0, .int 0, .ref q12, .ref q20, .ref q28, .ref q36, .ref q44, .null, .null, .null, .null, .null, .null])), (q12, .inl (cI, (8, .inl (fun _ => 0)))), (q20, .inl (cI, (8, .inl (fun _ => 0)))), (q28, .inl (cI, (20, .inl (fun _ => 0)))), (q36, .inl (cI, (20, .inl (fun _ => 0)))), (q44, .inl (cI, (20, .inl (fun _ => 0))))] := hD
  refine lv_aload_n hx hb dX0_init_49 rfl (lv_at hl 0 rfl) ?_
  refine lv_bipush (v := 20) hx hb dX0_init_50 (by decide) ?_
  refine zn_newa hx hb (hts _ (ch_2 _ (List.mem_of_getElem? (l := wsL_law_r2) (i := 8) rfl))) hK hP hD hS hA (n := 20) (N := 20) (by decide) (by decide) (by decide) (Nat.le_of_ble_eq_true rfl) (Nat.le_of_ble_eq_true rfl) dX0_init_52 (fun q52 H hP hD hS => ?_)
  have hP : va_P D vwCl [(h0, .inr (0, [.int 0, .int 1, .int 0, .int 0, .ref q12, .ref q20, .ref q28, .ref q36, .ref q44, .null, .null, .null, .null, .null, .null])), (q12, .inl (cI, (8, .inl (fun _ => 0)))), (q20, .inl (cI, (8, .inl (fun _ => 0)))), (q28, .inl (cI, (20, .inl (fun _ => 0)))), (q36, .inl (cI, (20, .inl (fun _ => 0)))), (q44, .inl (cI, (20, .inl (fun _ => 0)))), (q52, .inl (cI, (20, .inl (fun _ => 0))))] H := hP
  have hD : va_D A [(h0, .inr (0, [.int 0, .int 1, .int 0, .int 0, .ref q12, .ref q20, .ref q28, .ref q36, .ref q44, .null, .null, .null, .null, .null, .null])), (q12, .inl (cI, (8, .inl (fun _ => 0)))), (q20, .inl (cI, (8, .inl (fun _ => 0)))), (q28, .inl (cI, (20, .inl (fun _ => 0)))), (q36, .inl (cI, (20, .inl (fun _ => 0)))), (q44, .inl (cI, (20, .inl (fun _ => 0)))), (q52, .inl (cI, (20, .inl (fun _ => 0))))] := hD
  refine va_putF (D := D) (ci := 0) (v := .ref q52) (ty := .array .int) (C := RX0) (T := TX0) (N := 15) hx hb hts inlX0 tyX0 tyX0_ok nmX0 hown hK hP hD hS 0 rfl rfl 9 (by decide) (hts _ (ch_2 _ (List.mem_of_getElem? (l := wsL_law_r2) (i := 22) rfl))) (fun _ h9 => h9) rfl hin rfl (by decide +kernel) rfl rfl (Nat.le_of_ble_eq_true rfl) dX0_init_54 (fun H locs hP hD hS => ?_)
  have hP : va_P D vwCl [(h0, .inr (0, [.int 0, .int 1, .int 0, .int 0, .ref q12, .ref q20, .ref q28, .ref q36, .ref q44, .ref q52, .null, .null, .null, .null, .null])), (q12, .inl (cI, (8, .inl (fun _ => 0)))), (q20, .inl (cI, (8, .inl (fun _ => 0)))), (q28, .inl (cI, (20, .inl (fun _ => 0)))), (q36, .inl (cI, (20, .inl (fun _ => 0)))), (q44, .inl (cI, (20, .inl (fun _ => 0)))), (q52, .inl (cI, (20, .inl (fun _ => 0))))] H := hP
  have hD : va_D A [(h0, .inr (0, [.int 0, .int 1, .int 0, .int 0, .ref q12, .ref q20, .ref q28, .ref q36, .ref q44, .ref q52, .null, .null, .null, .null, .null])), (q12, .inl (cI, (8, .inl (fun _ => 0)))), (q20, .inl (cI, (8, .inl (fun _ => 0)))), (q28, .inl (cI, (20, .inl (fun _ => 0)))), (q36, .inl (cI, (20, .inl (fun _ => 0)))), (q44, .inl (cI, (20, .inl (fun _ => 0)))), (q52, .inl (cI, (20, .inl (fun _ => 0))))] := hD
  refine lv_aload_n hx hb dX0_init_57 rfl (lv_at hl 0 rfl) ?_
  refine lv_bipush (v := 8) hx hb dX0_init_58 (by decide) ?_
  refine zn_newa hx hb (hts _ (ch_2 _ (List.mem_of_getElem? (l := wsL_law_r2) (i := 8) rfl))) hK hP hD hS hA (n := 8) (N := 8) (by decide) (by decide) (by decide) (Nat.le_of_ble_eq_true rfl) (Nat.le_of_ble_eq_true rfl) dX0_init_60 (fun q60 H hP hD hS => ?_)
  have hP : va_P D vwCl [(h0, .inr (0, [.int 0, .int 1, .int 0, .int 0, .ref q12, .ref q20, .ref q28, .ref q36, .ref q44, .ref q52, .null, .null, .null, .null, .null])), (q12, .inl (cI, (8, .inl (fun _ => 0)))), (q20, .inl (cI, (8, .inl (fun _ => 0)))), (q28, .inl (cI, (20, .inl (fun _ => 0)))), (q36, .inl (cI, (20, .inl (fun _ => 0)))), (q44, .inl (cI, (20, .inl (fun _ => 0)))), (q52, .inl (cI, (20, .inl (fun _ => 0)))), (q60, .inl (cI, (8, .inl (fun _ => 0))))] H := hP
  have hD : va_D A [(h0, .inr (0, [.int 0, .int 1, .int 0, .int 0, .ref q12, .ref q20, .ref q28, .ref q36, .ref q44, .ref q52, .null, .null, .null, .null, .null])), (q12, .inl (cI, (8, .inl (fun _ => 0)))), (q20, .inl (cI, (8, .inl (fun _ => 0)))), (q28, .inl (cI, (20, .inl (fun _ => 0)))), (q36, .inl (cI, (20, .inl (fun _ => 0)))), (q44, .inl (cI, (20, .inl (fun _ => 0)))), (q52, .inl (cI, (20, .inl (fun _ => 0)))), (q60, .inl (cI, (8, .inl (fun _ => 0))))] := hD
  refine va_putF (D := D) (ci := 0) (v := .ref q60) (ty := .array .int) (C := RX0) (T := TX0) (N := 15) hx hb hts inlX0 tyX0 tyX0_ok nmX0 hown hK hP hD hS 0 rfl rfl 10 (by decide) (hts _ (ch_2 _ (List.mem_of_getElem? (l := wsL_law_r2) (i := 23) rfl))) (fun _ h9 => h9) rfl hin rfl (by decide +kernel) rfl rfl (Nat.le_of_ble_eq_true rfl) dX0_init_62 (fun H locs hP hD hS => ?_)
  have hP : va_P D vwCl [(h0, .inr (0, [.int 0, .int 1, .int 0, .int 0, .ref q12, .ref q20, .ref q28, .ref q36, .ref q44, .ref q52, .ref q60, .null, .null, .null, .null])), (q12, .inl (cI, (8, .inl (fun _ => 0)))), (q20, .inl (cI, (8, .inl (fun _ => 0)))), (q28, .inl (cI, (20, .inl (fun _ => 0)))), (q36, .inl (cI, (20, .inl (fun _ => 0)))), (q44, .inl (cI, (20, .inl (fun _ => 0)))), (q52, .inl (cI, (20, .inl (fun _ => 0)))), (q60, .inl (cI, (8, .inl (fun _ => 0))))] H := hP
  have hD : va_D A [(h0, .inr (0, [.int 0, .int 1, .int 0, .int 0, .ref q12, .ref q20, .ref q28, .ref q36, .ref q44, .ref q52, .ref q60, .null, .null, .null, .null])), (q12, .inl (cI, (8, .inl (fun _ => 0)))), (q20, .inl (cI, (8, .inl (fun _ => 0)))), (q28, .inl (cI, (20, .inl (fun _ => 0)))), (q36, .inl (cI, (20, .inl (fun _ => 0)))), (q44, .inl (cI, (20, .inl (fun _ => 0)))), (q52, .inl (cI, (20, .inl (fun _ => 0)))), (q60, .inl (cI, (8, .inl (fun _ => 0))))] := hD
  refine lv_aload_n hx hb dX0_init_65 rfl (lv_at hl 0 rfl) ?_
  refine lv_bipush (v := 8) hx hb dX0_init_66 (by decide) ?_
  refine zn_newa hx hb (hts _ (ch_2 _ (List.mem_of_getElem? (l := wsL_law_r2) (i := 8) rfl))) hK hP hD hS hA (n := 8) (N := 8) (by decide) (by decide) (by decide) (Nat.le_of_ble_eq_true rfl) (Nat.le_of_ble_eq_true rfl) dX0_init_68 (fun q68 H hP hD hS => ?_)
  have hP : va_P D vwCl [(h0, .inr (0, [.int 0, .int 1, .int 0, .int 0, .ref q12, .ref q20, .ref q28, .ref q36, .ref q44, .ref q52, .ref q60, .null, .null, .null, .null])), (q12, .inl (cI, (8, .inl (fun _ => 0)))), (q20, .inl (cI, (8, .inl (fun _ => 0)))), (q28, .inl (cI, (20, .inl (fun _ => 0)))), (q36, .inl (cI, (20, .inl (fun _ => 0)))), (q44, .inl (cI, (20, .inl (fun _ => 0)))), (q52, .inl (cI, (20, .inl (fun _ => 0)))), (q60, .inl (cI, (8, .inl (fun _ => 0)))), (q68, .inl (cI, (8, .inl (fun _ => 0))))] H := hP
  have hD : va_D A [(h0, .inr (0, [.int 0, .int 1, .int 0, .int 0, .ref q12, .ref q20, .ref q28, .ref q36, .ref q44, .ref q52, .ref q60, .null, .null, .null, .null])), (q12, .inl (cI, (8, .inl (fun _ => 0)))), (q20, .inl (cI, (8, .inl (fun _ => 0)))), (q28, .inl (cI, (20, .inl (fun _ => 0)))), (q36, .inl (cI, (20, .inl (fun _ => 0)))), (q44, .inl (cI, (20, .inl (fun _ => 0)))), (q52, .inl (cI, (20, .inl (fun _ => 0)))), (q60, .inl (cI, (8, .inl (fun _ => 0)))), (q68, .inl (cI, (8, .inl (fun _ => 0))))] := hD
  refine va_putF (D := D) (ci := 0) (v := .ref q68) (ty := .array .int) (C := RX0) (T := TX0) (N := 15) hx hb hts inlX0 tyX0 tyX0_ok nmX0 hown hK hP hD hS 0 rfl rfl 11 (by decide) (hts _ (ch_3 _ (List.mem_of_getElem? (l := wsL_law_r3) (i := 0) rfl))) (fun _ h9 => h9) rfl hin rfl (by decide +kernel) rfl rfl (Nat.le_of_ble_eq_true rfl) dX0_init_70 (fun H locs hP hD hS => ?_)
  have hP : va_P D vwCl [(h0, .inr (0, [.int 0, .int 1, .int 0, .int 0, .ref q12, .ref q20, .ref q28, .ref q36, .ref q44, .ref q52, .ref q60, .ref q68, .null, .null, .null])), (q12, .inl (cI, (8, .inl (fun _ => 0)))), (q20, .inl (cI, (8, .inl (fun _ => 0)))), (q28, .inl (cI, (20, .inl (fun _ => 0)))), (q36, .inl (cI, (20, .inl (fun _ => 0)))), (q44, .inl (cI, (20, .inl (fun _ => 0)))), (q52, .inl (cI, (20, .inl (fun _ => 0)))), (q60, .inl (cI, (8, .inl (fun _ => 0)))), (q68, .inl (cI, (8, .inl (fun _ => 0))))] H := hP
  have hD : va_D A [(h0, .inr (0, [.int 0, .int 1, .int 0, .int 0, .ref q12, .ref q20, .ref q28, .ref q36, .ref q44, .ref q52, .ref q60, .ref q68, .null, .null, .null])), (q12, .inl (cI, (8, .inl (fun _ => 0)))), (q20, .inl (cI, (8, .inl (fun _ => 0)))), (q28, .inl (cI, (20, .inl (fun _ => 0)))), (q36, .inl (cI, (20, .inl (fun _ => 0)))), (q44, .inl (cI, (20, .inl (fun _ => 0)))), (q52, .inl (cI, (20, .inl (fun _ => 0)))), (q60, .inl (cI, (8, .inl (fun _ => 0)))), (q68, .inl (cI, (8, .inl (fun _ => 0))))] := hD
  refine lv_aload_n hx hb dX0_init_73 rfl (lv_at hl 0 rfl) ?_
  refine lv_bipush (v := 8) hx hb dX0_init_74 (by decide) ?_
  refine zn_newa hx hb (hts _ (ch_2 _ (List.mem_of_getElem? (l := wsL_law_r2) (i := 8) rfl))) hK hP hD hS hA (n := 8) (N := 8) (by decide) (by decide) (by decide) (Nat.le_of_ble_eq_true rfl) (Nat.le_of_ble_eq_true rfl) dX0_init_76 (fun q76 H hP hD hS => ?_)
  have hP : va_P D vwCl [(h0, .inr (0, [.int 0, .int 1, .int 0, .int 0, .ref q12, .ref q20, .ref q28, .ref q36, .ref q44, .ref q52, .ref q60, .ref q68, .null, .null, .null])), (q12, .inl (cI, (8, .inl (fun _ => 0)))), (q20, .inl (cI, (8, .inl (fun _ => 0)))), (q28, .inl (cI, (20, .inl (fun _ => 0)))), (q36, .inl (cI, (20, .inl (fun _ => 0)))), (q44, .inl (cI, (20, .inl (fun _ => 0)))), (q52, .inl (cI, (20, .inl (fun _ => 0)))), (q60, .inl (cI, (8, .inl (fun _ => 0)))), (q68, .inl (cI, (8, .inl (fun _ => 0)))), (q76, .inl (cI, (8, .inl (fun _ => 0))))] H := hP
  have hD : va_D A [(h0, .inr (0, [.int 0, .int 1, .int 0, .int 0, .ref q12, .ref q20, .ref q28, .ref q36, .ref q44, .ref q52, .ref q60, .ref q68, .null, .null, .null])), (q12, .inl (cI, (8, .inl (fun _ => 0)))), (q20, .inl (cI, (8, .inl (fun _ => 0)))), (q28, .inl (cI, (20, .inl (fun _ => 0)))), (q36, .inl (cI, (20, .inl (fun _ => 0)))), (q44, .inl (cI, (20, .inl (fun _ => 0)))), (q52, .inl (cI, (20, .inl (fun _ => 0)))), (q60, .inl (cI, (8, .inl (fun _ => 0)))), (q68, .inl (cI, (8, .inl (fun _ => 0)))), (q76, .inl (cI, (8, .inl (fun _ => 0))))] := hD
  refine va_putF (D := D) (ci := 0) (v := .ref q76) (ty := .array .int) (C := RX0) (T := TX0) (N := 15) hx hb hts inlX0 tyX0 tyX0_ok nmX0 hown hK hP hD hS 0 rfl rfl 12 (by decide) (hts _ (ch_3 _ (List.mem_of_getElem? (l := wsL_law_r3) (i := 1) rfl))) (fun _ h9 => h9) rfl hin rfl (by decide +kernel) rfl rfl (Nat.le_of_ble_eq_true rfl) dX0_init_78 (fun H locs hP hD hS => ?_)
  have hP : va_P D vwCl [(h0, .inr (0, [.int 0, .int 1, .int 0, .int 0, .ref q12, .ref q20, .ref q28, .ref q36, .ref q44, .ref q52, .ref q60, .ref q68, .ref q76, .null, .null])), (q12, .inl (cI, (8, .inl (fun _ => 0)))), (q20, .inl (cI, (8, .inl (fun _ => 0)))), (q28, .inl (cI, (20, .inl (fun _ => 0)))), (q36, .inl (cI, (20, .inl (fun _ => 0)))), (q44, .inl (cI, (20, .inl (fun _ => 0)))), (q52, .inl (cI, (20, .inl (fun _ => 0)))), (q60, .inl (cI, (8, .inl (fun _ => 0)))), (q68, .inl (cI, (8, .inl (fun _ => 0)))), (q76, .inl (cI, (8, .inl (fun _ => 0))))] H := hP
  have hD : va_D A [(h0, .inr (0, [.int 0, .int 1, .int 0, .int 0, .ref q12, .ref q20, .ref q28, .ref q36, .ref q44, .ref q52, .ref q60, .ref q68, .ref q76, .null, .null])), (q12, .inl (cI, (8, .inl (fun _ => 0)))), (q20, .inl (cI, (8, .inl (fun _ => 0)))), (q28, .inl (cI, (20, .inl (fun _ => 0)))), (q36, .inl (cI, (20, .inl (fun _ => 0)))), (q44, .inl (cI, (20, .inl (fun _ => 0)))), (q52, .inl (cI, (20, .inl (fun _ => 0)))), (q60, .inl (cI, (8, .inl (fun _ => 0)))), (q68, .inl (cI, (8, .inl (fun _ => 0)))), (q76, .inl (cI, (8, .inl (fun _ => 0))))] := hD
  refine lv_aload_n hx hb dX0_init_81 rfl (lv_at hl 0 rfl) ?_
  refine lv_bipush (v := 8) hx hb dX0_init_82 (by decide) ?_
  refine zn_newa hx hb (hts _ (ch_2 _ (List.mem_of_getElem? (l := wsL_law_r2) (i := 8) rfl))) hK hP hD hS hA (n := 8) (N := 8) (by decide) (by decide) (by decide) (Nat.le_of_ble_eq_true rfl) (Nat.le_of_ble_eq_true rfl) dX0_init_84 (fun q84 H hP hD hS => ?_)
  have hP : va_P D vwCl [(h0, .inr (0, [.int 0, .int 1, .int 0, .int 0, .ref q12, .ref q20, .ref q28, .ref q36, .ref q44, .ref q52, .ref q60, .ref q68, .ref q76, .null, .null])), (q12, .inl (cI, (8, .inl (fun _ => 0)))), (q20, .inl (cI, (8, .inl (fun _ => 0)))), (q28, .inl (cI, (20, .inl (fun _ => 0)))), (q36, .inl (cI, (20, .inl (fun _ => 0)))), (q44, .inl (cI, (20, .inl (fun _ => 0)))), (q52, .inl (cI, (20, .inl (fun _ => 0)))), (q60, .inl (cI, (8, .inl (fun _ => 0)))), (q68, .inl (cI, (8, .inl (fun _ => 0)))), (q76, .inl (cI, (8, .inl (fun _ => 0)))), (q84, .inl (cI, (8, .inl (fun _ => 0))))] H := hP
  have hD : va_D A [(h0, .inr (0, [.int 0, .int 1, .int 0, .int 0, .ref q12, .ref q20, .ref q28, .ref q36, .ref q44, .ref q52, .ref q60, .ref q68, .ref q76, .null, .null])), (q12, .inl (cI, (8, .inl (fun _ => 0)))), (q20, .inl (cI, (8, .inl (fun _ => 0)))), (q28, .inl (cI, (20, .inl (fun _ => 0)))), (q36, .inl (cI, (20, .inl (fun _ => 0)))), (q44, .inl (cI, (20, .inl (fun _ => 0)))), (q52, .inl (cI, (20, .inl (fun _ => 0)))), (q60, .inl (cI, (8, .inl (fun _ => 0)))), (q68, .inl (cI, (8, .inl (fun _ => 0)))), (q76, .inl (cI, (8, .inl (fun _ => 0)))), (q84, .inl (cI, (8, .inl (fun _ => 0))))] := hD
  refine va_putF (D := D) (ci := 0) (v := .ref q84) (ty := .array .int) (C := RX0) (T := TX0) (N := 15) hx hb hts inlX0 tyX0 tyX0_ok nmX0 hown hK hP hD hS 0 rfl rfl 13 (by decide) (hts _ (ch_3 _ (List.mem_of_getElem? (l := wsL_law_r3) (i := 2) rfl))) (fun _ h9 => h9) rfl hin rfl (by decide +kernel) rfl rfl (Nat.le_of_ble_eq_true rfl) dX0_init_86 (fun H locs hP hD hS => ?_)
  have hP : va_P D vwCl [(h0, .inr (0, [.int 0, .int 1, .int 0, .int 0, .ref q12, .ref q20, .ref q28, .ref q36, .ref q44, .ref q52, .ref q60, .ref q68, .ref q76, .ref q84, .null])), (q12, .inl (cI, (8, .inl (fun _ => 0)))), (q20, .inl (cI, (8, .inl (fun _ => 0)))), (q28, .inl (cI, (20, .inl (fun _ => 0)))), (q36, .inl (cI, (20, .inl (fun _ => 0)))), (q44, .inl (cI, (20, .inl (fun _ => 0)))), (q52, .inl (cI, (20, .inl (fun _ => 0)))), (q60, .inl (cI, (8, .inl (fun _ => 0)))), (q68, .inl (cI, (8, .inl (fun _ => 0)))), (q76, .inl (cI, (8, .inl (fun _ => 0)))), (q84, .inl (cI, (8, .inl (fun _ => 0))))] H := hP
  have hD : va_D A [(h0, .inr (0, [.int 0, .int 1, .int 0, .int 0, .ref q12, .ref q20, .ref q28, .ref q36, .ref q44, .ref q52, .ref q60, .ref q68, .ref q76, .ref q84, .null])), (q12, .inl (cI, (8, .inl (fun _ => 0)))), (q20, .inl (cI, (8, .inl (fun _ => 0)))), (q28, .inl (cI, (20, .inl (fun _ => 0)))), (q36, .inl (cI, (20, .inl (fun _ => 0)))), (q44, .inl (cI, (20, .inl (fun _ => 0)))), (q52, .inl (cI, (20, .inl (fun _ => 0)))), (q60, .inl (cI, (8, .inl (fun _ => 0)))), (q68, .inl (cI, (8, .inl (fun _ => 0)))), (q76, .inl (cI, (8, .inl (fun _ => 0)))), (q84, .inl (cI, (8, .inl (fun _ => 0))))] := hD
  refine lv_aload_n hx hb dX0_init_89 rfl (lv_at hl 0 rfl) ?_
  refine lv_bipush (v := 10) hx hb dX0_init_90 (by decide) ?_
  refine zn_newa hx hb (hts _ (ch_2 _ (List.mem_of_getElem? (l := wsL_law_r2) (i := 8) rfl))) hK hP hD hS hA (n := 10) (N := 10) (by decide) (by decide) (by decide) (Nat.le_of_ble_eq_true rfl) (Nat.le_of_ble_eq_true rfl) dX0_init_92 (fun q92 H hP hD hS => ?_)
  have hP : va_P D vwCl [(h0, .inr (0, [.int 0, .int 1, .int 0, .int 0, .ref q12, .ref q20, .ref q28, .ref q36, .ref q44, .ref q52, .ref q60, .ref q68, .ref q76, .ref q84, .null])), (q12, .inl (cI, (8, .inl (fun _ => 0)))), (q20, .inl (cI, (8, .inl (fun _ => 0)))), (q28, .inl (cI, (20, .inl (fun _ => 0)))), (q36, .inl (cI, (20, .inl (fun _ => 0)))), (q44, .inl (cI, (20, .inl (fun _ => 0)))), (q52, .inl (cI, (20, .inl (fun _ => 0)))), (q60, .inl (cI, (8, .inl (fun _ => 0)))), (q68, .inl (cI, (8, .inl (fun _ => 0)))), (q76, .inl (cI, (8, .inl (fun _ => 0)))), (q84, .inl (cI, (8, .inl (fun _ => 0)))), (q92, .inl (cI, (10, .inl (fun _ => 0))))] H := hP
  have hD : va_D A [(h0, .inr (0, [.int 0, .int 1, .int 0, .int 0, .ref q12, .ref q20, .ref q28, .ref q36, .ref q44, .ref q52, .ref q60, .ref q68, .ref q76, .ref q84, .null])), (q12, .inl (cI, (8, .inl (fun _ => 0)))), (q20, .inl (cI, (8, .inl (fun _ => 0)))), (q28, .inl (cI, (20, .inl (fun _ => 0)))), (q36, .inl (cI, (20, .inl (fun _ => 0)))), (q44, .inl (cI, (20, .inl (fun _ => 0)))), (q52, .inl (cI, (20, .inl (fun _ => 0)))), (q60, .inl (cI, (8, .inl (fun _ => 0)))), (q68, .inl (cI, (8, .inl (fun _ => 0)))), (q76, .inl (cI, (8, .inl (fun _ => 0)))), (q84, .inl (cI, (8, .inl (fun _ => 0)))), (q92, .inl (cI, (10, .inl (fun _ => 0))))] := hD
  refine va_putF (D := D) (ci := 0) (v := .ref q92) (ty := .array .int) (C := RX0) (T := TX0) (N := 15) hx hb hts inlX0 tyX0 tyX0_ok nmX0 hown hK hP hD hS 0 rfl rfl 14 (by decide) (hts _ (ch_3 _ (List.mem_of_getElem? (l := wsL_law_r3) (i := 3) rfl))) (fun _ h9 => h9) rfl hin rfl (by decide +kernel) rfl rfl (Nat.le_of_ble_eq_true rfl) dX0_init_94 (fun H locs hP hD hS => ?_)
  have hP : va_P D vwCl [(h0, .inr (0, [.int 0, .int 1, .int 0, .int 0, .ref q12, .ref q20, .ref q28, .ref q36, .ref q44, .ref q52, .ref q60, .ref q68, .ref q76, .ref q84, .ref q92])), (q12, .inl (cI, (8, .inl (fun _ => 0)))), (q20, .inl (cI, (8, .inl (fun _ => 0)))), (q28, .inl (cI, (20, .inl (fun _ => 0)))), (q36, .inl (cI, (20, .inl (fun _ => 0)))), (q44, .inl (cI, (20, .inl (fun _ => 0)))), (q52, .inl (cI, (20, .inl (fun _ => 0)))), (q60, .inl (cI, (8, .inl (fun _ => 0)))), (q68, .inl (cI, (8, .inl (fun _ => 0)))), (q76, .inl (cI, (8, .inl (fun _ => 0)))), (q84, .inl (cI, (8, .inl (fun _ => 0)))), (q92, .inl (cI, (10, .inl (fun _ => 0))))] H := hP
  have hD : va_D A [(h0, .inr (0, [.int 0, .int 1, .int 0, .int 0, .ref q12, .ref q20, .ref q28, .ref q36, .ref q44, .ref q52, .ref q60, .ref q68, .ref q76, .ref q84, .ref q92])), (q12, .inl (cI, (8, .inl (fun _ => 0)))), (q20, .inl (cI, (8, .inl (fun _ => 0)))), (q28, .inl (cI, (20, .inl (fun _ => 0)))), (q36, .inl (cI, (20, .inl (fun _ => 0)))), (q44, .inl (cI, (20, .inl (fun _ => 0)))), (q52, .inl (cI, (20, .inl (fun _ => 0)))), (q60, .inl (cI, (8, .inl (fun _ => 0)))), (q68, .inl (cI, (8, .inl (fun _ => 0)))), (q76, .inl (cI, (8, .inl (fun _ => 0)))), (q84, .inl (cI, (8, .inl (fun _ => 0)))), (q92, .inl (cI, (10, .inl (fun _ => 0))))] := hD
  refine lv_aload_n hx hb dX0_init_97 rfl (lv_at hl 0 rfl) ?_
  refine va_get (D := D) (ci := 0) (v := .ref q12) (C := RX0) (T := TX0) (N := 15) hx hb hts inlX0 hown hK hP 0 rfl rfl 4 (by decide) (hts _ (ch_2 _ (List.mem_of_getElem? (l := wsL_law_r2) (i := 17) rfl))) (fun _ h9 => h9) rfl dX0_init_98 ?_
  refine lv_bipush (v := 10) hx hb dX0_init_101 (by decide) ?_
  have hPc := hP.sub (ws' := [(q12, .inl (cI, (8, .inl (fun _ => 0))))]) [1] rfl
  have hDc := hD.sub (ws' := [(q12, .inl (cI, (8, .inl (fun _ => 0))))]) [1] (by decide) rfl
  have hFc := va_free (wc := [(q12, .inl (cI, (8, .inl (fun _ => 0))))]) hD hS hA [1] rfl
  refine va_callv (va_runS (As := [.ref q12, .int 10]) (rest := []) ⟨hx, hb, hml, hown, hts⟩ (k_fill8 l D cI cS q12 H.size (fun _ => 0) 10) ⟨callB_of 2 hts (zm_in (c := .tt) (ch_3 _ (List.mem_of_getElem? (l := wsL_law_r3) (i := 7) rfl))) rfl rfl rfl (hts _ (ch_3 _ (List.mem_of_getElem? (l := wsL_law_r3) (i := 6) rfl))) (hts _ (ch_3 _ (List.mem_of_getElem? (l := wsL_law_r3) (i := 4) rfl))) ⟨by decide, by decide, by decide +kernel⟩ ⟨Nat.le_of_ble_eq_true rfl, Nat.le_of_ble_eq_true rfl⟩, hts _ (ch_3 _ (List.mem_of_getElem? (l := wsL_law_r3) (i := 5) rfl))⟩ ⟨fun a U g mk q => by obtain ⟨q0, q1, qP, qK, qD⟩ := q; exact ⟨q0, q1, qP, va_K.moved (u := U) (U := U.calling g mk a) (Vm.Alike.refl U.vm) qK, qD⟩, fun U hU hW => ⟨rfl, by rw [hU], by rw [hU]; exact hPc, va_K.moved hW.alike hK, hDc.weaken (fun _ _ _ _ => trivial)⟩⟩ rfl rfl hl.1 rfl (lv_room (Nat.le_of_ble_eq_true rfl)) dX0_init_103 ⟨Nat.le_of_ble_eq_true rfl, Nat.le_of_ble_eq_true rfl⟩) hS (fun q _ h => hFc q h) hFc (fun _ t H1 locs ht hvm _ hB hz1 hk1 hS => ?_)
  obtain ⟨hP1, hD1⟩ := hB
  rw [ht] at hP1
  obtain ⟨hP, hD⟩ := va_join (wr := [(h0, .inr (0, [.int 0, .int 1, .int 0, .int 0, .ref q12, .ref q20, .ref q28, .ref q36, .ref q44, .ref q52, .ref q60, .ref q68, .ref q76, .ref q84, .ref q92])), (q20, .inl (cI, (8, .inl (fun _ => 0)))), (q28, .inl (cI, (20, .inl (fun _ => 0)))), (q36, .inl (cI, (20, .inl (fun _ => 0)))), (q44, .inl (cI, (20, .inl (fun _ => 0)))), (q52, .inl (cI, (20, .inl (fun _ => 0)))), (q60, .inl (cI, (8, .inl (fun _ => 0)))), (q68, .inl (cI, (8, .inl (fun _ => 0)))), (q76, .inl (cI, (8, .inl (fun _ => 0)))), (q84, .inl (cI, (8, .inl (fun _ => 0)))), (q92, .inl (cI, (10, .inl (fun _ => 0))))]) (w1 := [(q12, .inl (cI, (8, .inl (upd (upd (upd (upd (upd (upd (upd (upd (fun _ => 0) 0 10) 1 10) 2 10) 3 10) 4 10) 5 10) 6 10) 7 10))))]) hP hD [1] [0, 2, 3, 4, 5, 6, 7, 8, 9, 10, 11] rfl rfl (by decide) (by decide) hk1 hFc hP1 hD1
  generalize H1 = H at hP hS ⊢
  have hP : va_P D vwCl [(h0, .inr (0, [.int 0, .int 1, .int 0, .int 0, .ref q12, .ref q20, .ref q28, .ref q36, .ref q44, .ref q52, .ref q60, .ref q68, .ref q76, .ref q84, .ref q92])), (q20, .inl (cI, (8, .inl (fun _ => 0)))), (q28, .inl (cI, (20, .inl (fun _ => 0)))), (q36, .inl (cI, (20, .inl (fun _ => 0)))), (q44, .inl (cI, (20, .inl (fun _ => 0)))), (q52, .inl (cI, (20, .inl (fun _ => 0)))), (q60, .inl (cI, (8, .inl (fun _ => 0)))), (q68, .inl (cI, (8, .inl (fun _ => 0)))), (q76, .inl (cI, (8, .inl (fun _ => 0)))), (q84, .inl (cI, (8, .inl (fun _ => 0)))), (q92, .inl (cI, (10, .inl (fun _ => 0)))), (q12, .inl (cI, (8, .inl (upd (upd (upd (upd (upd (upd (upd (upd (fun _ => 0) 0 10) 1 10) 2 10) 3 10) 4 10) 5 10) 6 10) 7 10))))] H := hP
  have hD : va_D A [(h0, .inr (0, [.int 0, .int 1, .int 0, .int 0, .ref q12, .ref q20, .ref q28, .ref q36, .ref q44, .ref q52, .ref q60, .ref q68, .ref q76, .ref q84, .ref q92])), (q20, .inl (cI, (8, .inl (fun _ => 0)))), (q28, .inl (cI, (20, .inl (fun _ => 0)))), (q36, .inl (cI, (20, .inl (fun _ => 0)))), (q44, .inl (cI, (20, .inl (fun _ => 0)))), (q52, .inl (cI, (20, .inl (fun _ => 0)))), (q60, .inl (cI, (8, .inl (fun _ => 0)))), (q68, .inl (cI, (8, .inl (fun _ => 0)))), (q76, .inl (cI, (8, .inl (fun _ => 0)))), (q84, .inl (cI, (8, .inl (fun _ => 0)))), (q92, .inl (cI, (10, .inl (fun _ => 0)))), (q12, .inl (cI, (8, .inl (upd (upd (upd (upd (upd (upd (upd (upd (fun _ => 0) 0 10) 1 10) 2 10) 3 10) 4 10) 5 10) 6 10) 7 10))))] := hD
  refine lv_aload_n hx hb dX0_init_106 rfl (lv_at hl 0 rfl) ?_
  refine va_get (D := D) (ci := 0) (v := .ref q92) (C := RX0) (T := TX0) (N := 15) hx hb hts inlX0 hown hK hP 0 rfl rfl 14 (by decide) (hts _ (ch_3 _ (List.mem_of_getElem? (l := wsL_law_r3) (i := 3) rfl))) (fun _ h9 => h9) rfl dX0_init_107 ?_
  refine lv_iconst (v := (-1)) hx hb dX0_init_110 (by decide) ?_
  have hPc := hP.sub (ws' := [(q92, .inl (cI, (10, .inl (fun _ => 0))))]) [10] rfl
  have hDc := hD.sub (ws' := [(q92, .inl (cI, (10, .inl (fun _ => 0))))]) [10] (by decide) rfl
  have hFc := va_free (wc := [(q92, .inl (cI, (10, .inl (fun _ => 0))))]) hD hS hA [10] rfl
  refine va_callv (va_runS (As := [.ref q92, .int (-1)]) (rest := []) ⟨hx, hb, hml, hown, hts⟩ (k_fill10 l D cI cS q92 H.size (fun _ => 0) (-1)) ⟨callB_of 2 hts (zm_in (c := .tt) (ch_3 _ (List.mem_of_getElem? (l := wsL_law_r3) (i := 7) rfl))) rfl rfl rfl (hts _ (ch_3 _ (List.mem_of_getElem? (l := wsL_law_r3) (i := 6) rfl))) (hts _ (ch_3 _ (List.mem_of_getElem? (l := wsL_law_r3) (i := 4) rfl))) ⟨by decide, by decide, by decide +kernel⟩ ⟨Nat.le_of_ble_eq_true rfl, Nat.le_of_ble_eq_true rfl⟩, hts _ (ch_3 _ (List.mem_of_getElem? (l := wsL_law_r3) (i := 5) rfl))⟩ ⟨fun a U g mk q => by obtain ⟨q0, q1, qP, qK, qD⟩ := q; exact ⟨q0, q1, qP, va_K.moved (u := U) (U := U.calling g mk a) (Vm.Alike.refl U.vm) qK, qD⟩, fun U hU hW => ⟨rfl, by rw [hU], by rw [hU]; exact hPc, va_K.moved hW.alike hK, hDc.weaken (fun _ _ _ _ => trivial)⟩⟩ rfl rfl hl.1 rfl (lv_room (Nat.le_of_ble_eq_true rfl)) dX0_init_111 ⟨Nat.le_of_ble_eq_true rfl, Nat.le_of_ble_eq_true rfl⟩) hS (fun q _ h => hFc q h) hFc (fun _ t H1 locs ht hvm _ hB hz1 hk1 hS => ?_)
  obtain ⟨hP1, hD1⟩ := hB
  rw [ht] at hP1
  obtain ⟨hP, hD⟩ := va_join (wr := [(h0, .inr (0, [.int 0, .int 1, .int 0, .int 0, .ref q12, .ref q20, .ref q28, .ref q36, .ref q44, .ref q52, .ref q60, .ref q68, .ref q76, .ref q84, .ref q92])), (q20, .inl (cI, (8, .inl (fun _ => 0)))), (q28, .inl (cI, (20, .inl (fun _ => 0)))), (q36, .inl (cI, (20, .inl (fun _ => 0)))), (q44, .inl (cI, (20, .inl (fun _ => 0)))), (q52, .inl (cI, (20, .inl (fun _ => 0)))), (q60, .inl (cI, (8, .inl (fun _ => 0)))), (q68, .inl (cI, (8, .inl (fun _ => 0)))), (q76, .inl (cI, (8, .inl (fun _ => 0)))), (q84, .inl (cI, (8, .inl (fun _ => 0)))), (q12, .inl (cI, (8, .inl (upd (upd (upd (upd (upd (upd (upd (upd (fun _ => 0) 0 10) 1 10) 2 10) 3 10) 4 10) 5 10) 6 10) 7 10))))]) (w1 := [(q92, .inl (cI, (10, .inl (upd (upd (upd (upd (upd (upd (upd (upd (upd (upd (fun _ => 0) 0 (-1)) 1 (-1)) 2 (-1)) 3 (-1)) 4 (-1)) 5 (-1)) 6 (-1)) 7 (-1)) 8 (-1)) 9 (-1)))))]) hP hD [10] [0, 1, 2, 3, 4, 5, 6, 7, 8, 9, 11] rfl rfl (by decide) (by decide) hk1 hFc hP1 hD1
  generalize H1 = H at hP hS ⊢
  have hP : va_P D vwCl [(h0, .inr (0, [.int 0, .int 1, .int 0, .int 0, .ref q12, .ref q20, .ref q28, .ref q36, .ref q44, .ref q52, .ref q60, .ref q68, .ref q76, .ref q84, .ref q92])), (q20, .inl (cI, (8, .inl (fun _ => 0)))), (q28, .inl (cI, (20, .inl (fun _ => 0)))), (q36, .inl (cI, (20, .inl (fun _ => 0)))), (q44, .inl (cI, (20, .inl (fun _ => 0)))), (q52, .inl (cI, (20, .inl (fun _ => 0)))), (q60, .inl (cI, (8, .inl (fun _ => 0)))), (q68, .inl (cI, (8, .inl (fun _ => 0)))), (q76, .inl (cI, (8, .inl (fun _ => 0)))), (q84, .inl (cI, (8, .inl (fun _ => 0)))), (q12, .inl (cI, (8, .inl (upd (upd (upd (upd (upd (upd (upd (upd (fun _ => 0) 0 10) 1 10) 2 10) 3 10) 4 10) 5 10) 6 10) 7 10)))), (q92, .inl (cI, (10, .inl (upd (upd (upd (upd (upd (upd (upd (upd (upd (upd (fun _ => 0) 0 (-1)) 1 (-1)) 2 (-1)) 3 (-1)) 4 (-1)) 5 (-1)) 6 (-1)) 7 (-1)) 8 (-1)) 9 (-1)))))] H := hP
  have hD : va_D A [(h0, .inr (0, [.int 0, .int 1, .int 0, .int 0, .ref q12, .ref q20, .ref q28, .ref q36, .ref q44, .ref q52, .ref q60, .ref q68, .ref q76, .ref q84, .ref q92])), (q20, .inl (cI, (8, .inl (fun _ => 0)))), (q28, .inl (cI, (20, .inl (fun _ => 0)))), (q36, .inl (cI, (20, .inl (fun _ => 0)))), (q44, .inl (cI, (20, .inl (fun _ => 0)))), (q52, .inl (cI, (20, .inl (fun _ => 0)))), (q60, .inl (cI, (8, .inl (fun _ => 0)))), (q68, .inl (cI, (8, .inl (fun _ => 0)))), (q76, .inl (cI, (8, .inl (fun _ => 0)))), (q84, .inl (cI, (8, .inl (fun _ => 0)))), (q12, .inl (cI, (8, .inl (upd (upd (upd (upd (upd (upd (upd (upd (fun _ => 0) 0 10) 1 10) 2 10) 3 10) 4 10) 5 10) 6 10) 7 10)))), (q92, .inl (cI, (10, .inl (upd (upd (upd (upd (upd (upd (upd (upd (upd (upd (fun _ => 0) 0 (-1)) 1 (-1)) 2 (-1)) 3 (-1)) 4 (-1)) 5 (-1)) 6 (-1)) 7 (-1)) 8 (-1)) 9 (-1)))))] := hD
  exact W.vret hx hb hr (fun t ht hW => ⟨⟨[q12, q20, q28, q36, q44, q52, q60, q68, q76, q84, q92], rfl, trivial, by rw [ht]; exact hP, hD⟩, hS.F ht⟩) hS.2.2 dX0_init_114
abbrev kw_X3 (cI cS : ClassId) (h0 : Nat) (u : List Nat) : va_W := [(h0, .inr (2, [.ref (u.getD 0 0), .int 0, .int 0])), ((u.getD 0 0), .inl (cI, (40, .inl (fun _ => 0))))]
set_option maxRecDepth 100000 in
set_option maxHeartbeats 8000000 in
theorem k_X3_init (l : Launch) (D : va_G) (cI cS : ClassId) (h0 sz : Nat) : Met l yX3_init (Cond.code yX3_init cX3_init 1 none :: wsL_law) ({ frames := 1, cells := 1, slots := 40, locals := 12 }) (va_Pc [.ref h0] (fun U => U.heap.size = sz ∧ va_P D vwCl [(h0, .inr (2, [.null, .int 0, .int 0]))] U.heap ∧ va_K D vwCl [(cI, .int), (cS, .object "NameBook$Sheet")] U ∧ va_D (fun _ => True) [(h0, .inr (2, [.null, .int 0, .int 0]))])) (va_Qv (fun _ : List Nat => True) (fun u t => va_P D vwCl (kw_X3 cI cS h0 u) t.heap ∧ va_D (va_A [(h0, .inr (2, [.null, .int 0, .int 0]))] sz) (kw_X3 cI cS h0 u)) (va_A [(h0, .inr (2, [.null, .int 0, .int 0]))] sz)) 1 40 (va_A [(h0, .inr (2, [.null, .int 0, .int 0]))] sz) := by
  refine Met.ofW (cc := cX3_init) (maxL := 1) (ret := none) (by decide) rfl ?_
  intro p e s m args below meth c s₁ B hml hv
  obtain ⟨rfl, hsz, hP, hK, hD0⟩ := hv
  have hx := B.exec
  have hb := B.bytes
  have hr := B.returns
  have hts0 := atoms_spec (ws := Cond.code yX3_init cX3_init 1 none :: wsL_law) B.pre
  have hts : ∀ w ∈ wsL_law, w.before _ s = true := fun w hw => hts0 w (List.mem_cons_of_mem _ hw)
  have hown : s.vm.findClass RX3 = some m.cls := findClass_of_methodNamed B.named
  have hlocks := B.notSynchronized
  have hin : meth.name = "<init>" := (name_of_methodNamed B.named B.method).1
  subst hsz
  have hD := hD0.self (sz := s.heap.size)
  generalize hAe : va_A [(h0, .inr (2, [.null, .int 0, .int 0]))] s.heap.size = A at hD ⊢
  have hA : ∀ q : Nat, s.heap.size ≤ q → A q := fun q h => by rw [← hAe]; exact Or.inr h
  have hS : va_S A s.heap s.heap [] := va_S.rf
  have hl := lv_entry ([.ref h0]) (n := 1) (Nat.le_of_ble_eq_true rfl)
  rw [lg_entry_eq]
  generalize (lg_sl ([.ref h0]) ++ List.replicate (1 - (lg_sl ([.ref h0])).length) Slot.unset).toArray = ls at hl ⊢
  have hl : lv_has ls 1 [(0, .ref h0)] := hl
  refine lv_aload_n hx hb dX3_init_0 rfl (lv_at hl 0 rfl) ?_
  refine W.objInit hx hb hown (hts _ (ch_4 _ (List.mem_of_getElem? (l := wsL_law_r4) (i := 5) rfl))) (hts _ (ch_1 _ (List.mem_of_getElem? (l := wsL_law_r1) (i := 10) rfl))) (hts _ (ch_1 _ (List.mem_of_getElem? (l := wsL_law_r1) (i := 11) rfl))) rfl (by rw [hml]; exact hl.1) rfl dX3_init_1 (Nat.le_of_ble_eq_true rfl) (Nat.le_of_ble_eq_true rfl) ?_
  refine W.eq (g2 := F0 m 4 ls []) rfl ?_
  refine lv_aload_n hx hb dX3_init_4 rfl (lv_at hl 0 rfl) ?_
  refine lv_bipush (v := 40) hx hb dX3_init_5 (by decide) ?_
  refine zn_newa hx hb (hts _ (ch_2 _ (List.mem_of_getElem? (l := wsL_law_r2) (i := 8) rfl))) hK hP hD hS hA (n := 40) (N := 40) (by decide) (by decide) (by decide) (Nat.le_of_ble_eq_true rfl) (Nat.le_of_ble_eq_true rfl) dX3_init_7 (fun q7 H hP hD hS => ?_)
  have hP : va_P D vwCl [(h0, .inr (2, [.null, .int 0, .int 0])), (q7, .inl (cI, (40, .inl (fun _ => 0))))] H := hP
  have hD : va_D A [(h0, .inr (2, [.null, .int 0, .int 0])), (q7, .inl (cI, (40, .inl (fun _ => 0))))] := hD
  refine va_putF (D := D) (ci := 2) (v := .ref q7) (ty := .array .int) (C := RX3) (T := TX3) (N := 3) hx hb hts inlX3 tyX3 tyX3_ok nmX3 hown hK hP hD hS 0 rfl rfl 0 (by decide) (hts _ (ch_4 _ (List.mem_of_getElem? (l := wsL_law_r4) (i := 6) rfl))) (fun _ h9 => h9) rfl hin rfl (by decide +kernel) rfl rfl (Nat.le_of_ble_eq_true rfl) dX3_init_9 (fun H locs hP hD hS => ?_)
  have hP : va_P D vwCl [(h0, .inr (2, [.ref q7, .int 0, .int 0])), (q7, .inl (cI, (40, .inl (fun _ => 0))))] H := hP
  have hD : va_D A [(h0, .inr (2, [.ref q7, .int 0, .int 0])), (q7, .inl (cI, (40, .inl (fun _ => 0))))] := hD
  exact W.vret hx hb hr (fun t ht hW => ⟨⟨[q7], rfl, trivial, by rw [ht]; exact hP, hD⟩, hS.F ht⟩) hS.2.2 dX3_init_12
abbrev kw_X4 (cI cS : ClassId) (h0 : Nat) (u : List Nat) : va_W := [(h0, .inr (3, [.ref (u.getD 0 0), .int 0, .int 0, .int 0, .int 0, .int 0])), ((u.getD 0 0), .inl (cI, (120, .inl (fun _ => 0))))]
set_option maxRecDepth 100000 in
set_option maxHeartbeats 8000000 in
theorem k_X4_init (l : Launch) (D : va_G) (cI cS : ClassId) (h0 sz : Nat) : Met l yX4_init (Cond.code yX4_init cX4_init 1 none :: wsL_law) ({ frames := 1, cells := 1, slots := 120, locals := 12 }) (va_Pc [.ref h0] (fun U => U.heap.size = sz ∧ va_P D vwCl [(h0, .inr (3, [.null, .int 0, .int 0, .int 0, .int 0, .int 0]))] U.heap ∧ va_K D vwCl [(cI, .int), (cS, .object "NameBook$Sheet")] U ∧ va_D (fun _ => True) [(h0, .inr (3, [.null, .int 0, .int 0, .int 0, .int 0, .int 0]))])) (va_Qv (fun _ : List Nat => True) (fun u t => va_P D vwCl (kw_X4 cI cS h0 u) t.heap ∧ va_D (va_A [(h0, .inr (3, [.null, .int 0, .int 0, .int 0, .int 0, .int 0]))] sz) (kw_X4 cI cS h0 u)) (va_A [(h0, .inr (3, [.null, .int 0, .int 0, .int 0, .int 0, .int 0]))] sz)) 1 120 (va_A [(h0, .inr (3, [.null, .int 0, .int 0, .int 0, .int 0, .int 0]))] sz) := by
  refine Met.ofW (cc := cX4_init) (maxL := 1) (ret := none) (by decide) rfl ?_
  intro p e s m args below meth c s₁ B hml hv
  obtain ⟨rfl, hsz, hP, hK, hD0⟩ := hv
  have hx := B.exec
  have hb := B.bytes
  have hr := B.returns
  have hts0 := atoms_spec (ws := Cond.code yX4_init cX4_init 1 none :: wsL_law) B.pre
  have hts : ∀ w ∈ wsL_law, w.before _ s = true := fun w hw => hts0 w (List.mem_cons_of_mem _ hw)
  have hown : s.vm.findClass RX4 = some m.cls := findClass_of_methodNamed B.named
  have hlocks := B.notSynchronized
  have hin : meth.name = "<init>" := (name_of_methodNamed B.named B.method).1
  subst hsz
  have hD := hD0.self (sz := s.heap.size)
  generalize hAe : va_A [(h0, .inr (3, [.null, .int 0, .int 0, .int 0, .int 0, .int 0]))] s.heap.size = A at hD ⊢
  have hA : ∀ q : Nat, s.heap.size ≤ q → A q := fun q h => by rw [← hAe]; exact Or.inr h
  have hS : va_S A s.heap s.heap [] := va_S.rf
  have hl := lv_entry ([.ref h0]) (n := 1) (Nat.le_of_ble_eq_true rfl)
  rw [lg_entry_eq]
  generalize (lg_sl ([.ref h0]) ++ List.replicate (1 - (lg_sl ([.ref h0])).length) Slot.unset).toArray = ls at hl ⊢
  have hl : lv_has ls 1 [(0, .ref h0)] := hl
  refine lv_aload_n hx hb dX4_init_0 rfl (lv_at hl 0 rfl) ?_
  refine W.objInit hx hb hown (hts _ (ch_4 _ (List.mem_of_getElem? (l := wsL_law_r4) (i := 1) rfl))) (hts _ (ch_1 _ (List.mem_of_getElem? (l := wsL_law_r1) (i := 10) rfl))) (hts _ (ch_1 _ (List.mem_of_getElem? (l := wsL_law_r1) (i := 11) rfl))) rfl (by rw [hml]; exact hl.1) rfl dX4_init_1 (Nat.le_of_ble_eq_true rfl) (Nat.le_of_ble_eq_true rfl) ?_
  refine W.eq (g2 := F0 m 4 ls []) rfl ?_
  refine lv_aload_n hx hb dX4_init_4 rfl (lv_at hl 0 rfl) ?_
  refine lv_bipush (v := 120) hx hb dX4_init_5 (by decide) ?_
  refine zn_newa hx hb (hts _ (ch_2 _ (List.mem_of_getElem? (l := wsL_law_r2) (i := 8) rfl))) hK hP hD hS hA (n := 120) (N := 120) (by decide) (by decide) (by decide) (Nat.le_of_ble_eq_true rfl) (Nat.le_of_ble_eq_true rfl) dX4_init_7 (fun q7 H hP hD hS => ?_)
  have hP : va_P D vwCl [(h0, .inr (3, [.null, .int 0, .int 0, .int 0, .int 0, .int 0])), (q7, .inl (cI, (120, .inl (fun _ => 0))))] H := hP
  have hD : va_D A [(h0, .inr (3, [.null, .int 0, .int 0, .int 0, .int 0, .int 0])), (q7, .inl (cI, (120, .inl (fun _ => 0))))] := hD
  refine va_putF (D := D) (ci := 3) (v := .ref q7) (ty := .array .int) (C := RX4) (T := TX4) (N := 6) hx hb hts inlX4 tyX4 tyX4_ok nmX4 hown hK hP hD hS 0 rfl rfl 0 (by decide) (hts _ (ch_4 _ (List.mem_of_getElem? (l := wsL_law_r4) (i := 2) rfl))) (fun _ h9 => h9) rfl hin rfl (by decide +kernel) rfl rfl (Nat.le_of_ble_eq_true rfl) dX4_init_9 (fun H locs hP hD hS => ?_)
  have hP : va_P D vwCl [(h0, .inr (3, [.ref q7, .int 0, .int 0, .int 0, .int 0, .int 0])), (q7, .inl (cI, (120, .inl (fun _ => 0))))] H := hP
  have hD : va_D A [(h0, .inr (3, [.ref q7, .int 0, .int 0, .int 0, .int 0, .int 0])), (q7, .inl (cI, (120, .inl (fun _ => 0))))] := hD
  exact W.vret hx hb hr (fun t ht hW => ⟨⟨[q7], rfl, trivial, by rw [ht]; exact hP, hD⟩, hS.F ht⟩) hS.2.2 dX4_init_12
abbrev kw_X5 (cI cS : ClassId) (h0 : Nat) (u : List Nat) : va_W := [(h0, .inr (4, [.ref (u.getD 0 0)])), ((u.getD 0 0), .inl (cI, (8, .inl (fun _ => 0))))]
set_option maxRecDepth 100000 in
set_option maxHeartbeats 8000000 in
theorem k_X5_init (l : Launch) (D : va_G) (cI cS : ClassId) (h0 sz : Nat) : Met l yX5_init (Cond.code yX5_init cX5_init 1 none :: wsL_law) ({ frames := 1, cells := 1, slots := 8, locals := 12 }) (va_Pc [.ref h0] (fun U => U.heap.size = sz ∧ va_P D vwCl [(h0, .inr (4, [.null]))] U.heap ∧ va_K D vwCl [(cI, .int), (cS, .object "NameBook$Sheet")] U ∧ va_D (fun _ => True) [(h0, .inr (4, [.null]))])) (va_Qv (fun _ : List Nat => True) (fun u t => va_P D vwCl (kw_X5 cI cS h0 u) t.heap ∧ va_D (va_A [(h0, .inr (4, [.null]))] sz) (kw_X5 cI cS h0 u)) (va_A [(h0, .inr (4, [.null]))] sz)) 1 8 (va_A [(h0, .inr (4, [.null]))] sz) := by
  refine Met.ofW (cc := cX5_init) (maxL := 1) (ret := none) (by decide) rfl ?_
  intro p e s m args below meth c s₁ B hml hv
  obtain ⟨rfl, hsz, hP, hK, hD0⟩ := hv
  have hx := B.exec
  have hb := B.bytes
  have hr := B.returns
  have hts0 := atoms_spec (ws := Cond.code yX5_init cX5_init 1 none :: wsL_law) B.pre
  have hts : ∀ w ∈ wsL_law, w.before _ s = true := fun w hw => hts0 w (List.mem_cons_of_mem _ hw)
  have hown : s.vm.findClass RX5 = some m.cls := findClass_of_methodNamed B.named
  have hlocks := B.notSynchronized
  have hin : meth.name = "<init>" := (name_of_methodNamed B.named B.method).1
  subst hsz
  have hD := hD0.self (sz := s.heap.size)
  generalize hAe : va_A [(h0, .inr (4, [.null]))] s.heap.size = A at hD ⊢
  have hA : ∀ q : Nat, s.heap.size ≤ q → A q := fun q h => by rw [← hAe]; exact Or.inr h
  have hS : va_S A s.heap s.heap [] := va_S.rf
  have hl := lv_entry ([.ref h0]) (n := 1) (Nat.le_of_ble_eq_true rfl)
  rw [lg_entry_eq]
  generalize (lg_sl ([.ref h0]) ++ List.replicate (1 - (lg_sl ([.ref h0])).length) Slot.unset).toArray = ls at hl ⊢
  have hl : lv_has ls 1 [(0, .ref h0)] := hl
  refine lv_aload_n hx hb dX5_init_0 rfl (lv_at hl 0 rfl) ?_
  refine W.objInit hx hb hown (hts _ (ch_3 _ (List.mem_of_getElem? (l := wsL_law_r3) (i := 10) rfl))) (hts _ (ch_1 _ (List.mem_of_getElem? (l := wsL_law_r1) (i := 10) rfl))) (hts _ (ch_1 _ (List.mem_of_getElem? (l := wsL_law_r1) (i := 11) rfl))) rfl (by rw [hml]; exact hl.1) rfl dX5_init_1 (Nat.le_of_ble_eq_true rfl) (Nat.le_of_ble_eq_true rfl) ?_
  refine W.eq (g2 := F0 m 4 ls []) rfl ?_
  refine lv_aload_n hx hb dX5_init_4 rfl (lv_at hl 0 rfl) ?_
  refine lv_bipush (v := 8) hx hb dX5_init_5 (by decide) ?_
  refine zn_newa hx hb (hts _ (ch_2 _ (List.mem_of_getElem? (l := wsL_law_r2) (i := 8) rfl))) hK hP hD hS hA (n := 8) (N := 8) (by decide) (by decide) (by decide) (Nat.le_of_ble_eq_true rfl) (Nat.le_of_ble_eq_true rfl) dX5_init_7 (fun q7 H hP hD hS => ?_)
  have hP : va_P D vwCl [(h0, .inr (4, [.null])), (q7, .inl (cI, (8, .inl (fun _ => 0))))] H := hP
  have hD : va_D A [(h0, .inr (4, [.null])), (q7, .inl (cI, (8, .inl (fun _ => 0))))] := hD
  refine va_putF (D := D) (ci := 4) (v := .ref q7) (ty := .array .int) (C := RX5) (T := TX5) (N := 1) hx hb hts inlX5 tyX5 tyX5_ok nmX5 hown hK hP hD hS 0 rfl rfl 0 (by decide) (hts _ (ch_3 _ (List.mem_of_getElem? (l := wsL_law_r3) (i := 11) rfl))) (fun _ h9 => h9) rfl hin rfl (by decide +kernel) rfl rfl (Nat.le_of_ble_eq_true rfl) dX5_init_9 (fun H locs hP hD hS => ?_)
  have hP : va_P D vwCl [(h0, .inr (4, [.ref q7])), (q7, .inl (cI, (8, .inl (fun _ => 0))))] H := hP
  have hD : va_D A [(h0, .inr (4, [.ref q7])), (q7, .inl (cI, (8, .inl (fun _ => 0))))] := hD
  exact W.vret hx hb hr (fun t ht hW => ⟨⟨[q7], rfl, trivial, by rw [ht]; exact hP, hD⟩, hS.F ht⟩) hS.2.2 dX5_init_12
abbrev kw_X1 (cI cS : ClassId) (h0 a1 a2 : Nat) (u : List Nat) : va_W := [(h0, .inr (1, [.ref a1, .ref a2, .ref (u.getD 0 0), .ref (u.getD 1 0), .ref (u.getD 2 0), .ref (u.getD 3 0), .ref (u.getD 4 0), .int 0, .int 0, .int 0])), ((u.getD 0 0), .inl (cI, (4, .inl (fun _ => 0)))), ((u.getD 1 0), .inl (cI, (4, .inl (fun _ => 0)))), ((u.getD 2 0), .inl (cI, (4, .inl (fun _ => 0)))), ((u.getD 3 0), .inl (cI, (32, .inl (fun _ => 0)))), ((u.getD 4 0), .inl (cI, (5, .inl (fun _ => 0))))]
set_option maxRecDepth 100000 in
set_option maxHeartbeats 8000000 in
theorem k_X1_init (l : Launch) (D : va_G) (cI cS : ClassId) (h0 sz a1 a2 : Nat) : Met l yX1_init (Cond.code yX1_init cX1_init 3 none :: wsL_law) ({ frames := 1, cells := 5, slots := 49, locals := 12 }) (va_Pc [.ref h0, .ref a1, .ref a2] (fun U => U.heap.size = sz ∧ va_P D vwCl [(h0, .inr (1, [.null, .null, .null, .null, .null, .null, .null, .int 0, .int 0, .int 0]))] U.heap ∧ va_K D vwCl [(cI, .int), (cS, .object "NameBook$Sheet")] U ∧ va_D (fun _ => True) [(h0, .inr (1, [.null, .null, .null, .null, .null, .null, .null, .int 0, .int 0, .int 0]))])) (va_Qv (fun _ : List Nat => True) (fun u t => va_P D vwCl (kw_X1 cI cS h0 a1 a2 u) t.heap ∧ va_D (va_A [(h0, .inr (1, [.null, .null, .null, .null, .null, .null, .null, .int 0, .int 0, .int 0]))] sz) (kw_X1 cI cS h0 a1 a2 u)) (va_A [(h0, .inr (1, [.null, .null, .null, .null, .null, .null, .null, .int 0, .int 0, .int 0]))] sz)) 5 49 (va_A [(h0, .inr (1, [.null, .null, .null, .null, .null, .null, .null, .int 0, .int 0, .int 0]))] sz) := by
  refine Met.ofW (cc := cX1_init) (maxL := 3) (ret := none) (by decide) rfl ?_
  intro p e s m args below meth c s₁ B hml hv
  obtain ⟨rfl, hsz, hP, hK, hD0⟩ := hv
  have hx := B.exec
  have hb := B.bytes
  have hr := B.returns
  have hts0 := atoms_spec (ws := Cond.code yX1_init cX1_init 3 none :: wsL_law) B.pre
  have hts : ∀ w ∈ wsL_law, w.before _ s = true := fun w hw => hts0 w (List.mem_cons_of_mem _ hw)
  have hown : s.vm.findClass RX1 = some m.cls := findClass_of_methodNamed B.named
  have hlocks := B.notSynchronized
  have hin : meth.name = "<init>" := (name_of_methodNamed B.named B.method).1
  subst hsz
  have hD := hD0.self (sz := s.heap.size)
  generalize hAe : va_A [(h0, .inr (1, [.null, .null, .null, .null, .null, .null, .null, .int 0, .int 0, .int 0]))] s.heap.size = A at hD ⊢
  have hA : ∀ q : Nat, s.heap.size ≤ q → A q := fun q h => by rw [← hAe]; exact Or.inr h
  have hS : va_S A s.heap s.heap [] := va_S.rf
  have hl := lv_entry ([.ref h0, .ref a1, .ref a2]) (n := 3) (Nat.le_of_ble_eq_true rfl)
  rw [lg_entry_eq]
  generalize (lg_sl ([.ref h0, .ref a1, .ref a2]) ++ List.replicate (3 - (lg_sl ([.ref h0, .ref a1, .ref a2])).length) Slot.unset).toArray = ls at hl ⊢
  have hl : lv_has ls 3 [(0, .ref h0), (1, .ref a1), (2, .ref a2)] := hl
  refine lv_aload_n hx hb dX1_init_0 rfl (lv_at hl 0 rfl) ?_
  refine W.objInit hx hb hown (hts _ (ch_3 _ (List.mem_of_getElem? (l := wsL_law_r3) (i := 15) rfl))) (hts _ (ch_1 _ (List.mem_of_getElem? (l := wsL_law_r1) (i := 10) rfl))) (hts _ (ch_1 _ (List.mem_of_getElem? (l := wsL_law_r1) (i := 11) rfl))) rfl (by rw [hml]; exact hl.1) rfl dX1_init_1 (Nat.le_of_ble_eq_true rfl) (Nat.le_of_ble_eq_true rfl) ?_
  refine W.eq (g2 := F0 m 4 ls []) rfl ?_
  refine lv_aload_n hx hb dX1_init_4 rfl (lv_at hl 0 rfl) ?_
  refine lv_iconst (v := 4) hx hb dX1_init_5 (by decide) ?_
  refine zn_newa hx hb (hts _ (ch_2 _ (List.mem_of_getElem? (l := wsL_law_r2) (i := 8) rfl))) hK hP hD hS hA (n := 4) (N := 4) (by decide) (by decide) (by decide) (Nat.le_of_ble_eq_true rfl) (Nat.le_of_ble_eq_true rfl) dX1_init_6 (fun q6 H hP hD hS => ?_)
  have hP : va_P D vwCl [(h0, .inr (1, [.null, .null, .null, .null, .null, .null, .null, .int 0, .int 0, .int 0])), (q6, .inl (cI, (4, .inl (fun _ => 0))))] H := hP
  have hD : va_D A [(h0, .inr (1, [.null, .null, .null, .null, .null, .null, .null, .int 0, .int 0, .int 0])), (q6, .inl (cI, (4, .inl (fun _ => 0))))] := hD
  refine va_putF (D := D) (ci := 1) (v := .ref q6) (ty := .array .int) (C := RX1) (T := TX1) (N := 10) hx hb hts inlX1 tyX1 tyX1_ok nmX1 hown hK hP hD hS 0 rfl rfl 2 (by decide) (hts _ (ch_3 _ (List.mem_of_getElem? (l := wsL_law_r3) (i := 16) rfl))) (fun _ h9 => h9) rfl hin rfl (by decide +kernel) rfl rfl (Nat.le_of_ble_eq_true rfl) dX1_init_8 (fun H locs hP hD hS => ?_)
  have hP : va_P D vwCl [(h0, .inr (1, [.null, .null, .ref q6, .null, .null, .null, .null, .int 0, .int 0, .int 0])), (q6, .inl (cI, (4, .inl (fun _ => 0))))] H := hP
  have hD : va_D A [(h0, .inr (1, [.null, .null, .ref q6, .null, .null, .null, .null, .int 0, .int 0, .int 0])), (q6, .inl (cI, (4, .inl (fun _ => 0))))] := hD
  refine lv_aload_n hx hb dX1_init_11 rfl (lv_at hl 0 rfl) ?_
  refine lv_iconst (v := 4) hx hb dX1_init_12 (by decide) ?_
  refine zn_newa hx hb (hts _ (ch_2 _ (List.mem_of_getElem? (l := wsL_law_r2) (i := 8) rfl))) hK hP hD hS hA (n := 4) (N := 4) (by decide) (by decide) (by decide) (Nat.le_of_ble_eq_true rfl) (Nat.le_of_ble_eq_true rfl) dX1_init_13 (fun q13 H hP hD hS => ?_)
  have hP : va_P D vwCl [(h0, .inr (1, [.null, .null, .ref q6, .null, .null, .null, .null, .int 0, .int 0, .int 0])), (q6, .inl (cI, (4, .inl (fun _ => 0)))), (q13, .inl (cI, (4, .inl (fun _ => 0))))] H := hP
  have hD : va_D A [(h0, .inr (1, [.null, .null, .ref q6, .null, .null, .null, .null, .int 0, .int 0, .int 0])), (q6, .inl (cI, (4, .inl (fun _ => 0)))), (q13, .inl (cI, (4, .inl (fun _ => 0))))] := hD
  refine va_putF (D := D) (ci := 1) (v := .ref q13) (ty := .array .int) (C := RX1) (T := TX1) (N := 10) hx hb hts inlX1 tyX1 tyX1_ok nmX1 hown hK hP hD hS 0 rfl rfl 3 (by decide) (hts _ (ch_3 _ (List.mem_of_getElem? (l := wsL_law_r3) (i := 17) rfl))) (fun _ h9 => h9) rfl hin rfl (by decide +kernel) rfl rfl (Nat.le_of_ble_eq_true rfl) dX1_init_15 (fun H locs hP hD hS => ?_)
  have hP : va_P D vwCl [(h0, .inr (1, [.null, .null, .ref q6, .ref q13, .null, .null, .null, .int 0, .int 0, .int 0])), (q6, .inl (cI, (4, .inl (fun _ => 0)))), (q13, .inl (cI, (4, .inl (fun _ => 0))))] H := hP
  have hD : va_D A [(h0, .inr (1, [.null, .null, .ref q6, .ref q13, .null, .null, .null, .int 0, .int 0, .int 0])), (q6, .inl (cI, (4, .inl (fun _ => 0)))), (q13, .inl (cI, (4, .inl (fun _ => 0))))] := hD
  refine lv_aload_n hx hb dX1_init_18 rfl (lv_at hl 0 rfl) ?_
  refine lv_iconst (v := 4) hx hb dX1_init_19 (by decide) ?_
  refine zn_newa hx hb (hts _ (ch_2 _ (List.mem_of_getElem? (l := wsL_law_r2) (i := 8) rfl))) hK hP hD hS hA (n := 4) (N := 4) (by decide) (by decide) (by decide) (Nat.le_of_ble_eq_true rfl) (Nat.le_of_ble_eq_true rfl) dX1_init_20 (fun q20 H hP hD hS => ?_)
  have hP : va_P D vwCl [(h0, .inr (1, [.null, .null, .ref q6, .ref q13, .null, .null, .null, .int 0, .int 0, .int 0])), (q6, .inl (cI, (4, .inl (fun _ => 0)))), (q13, .inl (cI, (4, .inl (fun _ => 0)))), (q20, .inl (cI, (4, .inl (fun _ => 0))))] H := hP
  have hD : va_D A [(h0, .inr (1, [.null, .null, .ref q6, .ref q13, .null, .null, .null, .int 0, .int 0, .int 0])), (q6, .inl (cI, (4, .inl (fun _ => 0)))), (q13, .inl (cI, (4, .inl (fun _ => 0)))), (q20, .inl (cI, (4, .inl (fun _ => 0))))] := hD
  refine va_putF (D := D) (ci := 1) (v := .ref q20) (ty := .array .int) (C := RX1) (T := TX1) (N := 10) hx hb hts inlX1 tyX1 tyX1_ok nmX1 hown hK hP hD hS 0 rfl rfl 4 (by decide) (hts _ (ch_3 _ (List.mem_of_getElem? (l := wsL_law_r3) (i := 18) rfl))) (fun _ h9 => h9) rfl hin rfl (by decide +kernel) rfl rfl (Nat.le_of_ble_eq_true rfl) dX1_init_22 (fun H locs hP hD hS => ?_)
  have hP : va_P D vwCl [(h0, .inr (1, [.null, .null, .ref q6, .ref q13, .ref q20, .null, .null, .int 0, .int 0, .int 0])), (q6, .inl (cI, (4, .inl (fun _ => 0)))), (q13, .inl (cI, (4, .inl (fun _ => 0)))), (q20, .inl (cI, (4, .inl (fun _ => 0))))] H := hP
  have hD : va_D A [(h0, .inr (1, [.null, .null, .ref q6, .ref q13, .ref q20, .null, .null, .int 0, .int 0, .int 0])), (q6, .inl (cI, (4, .inl (fun _ => 0)))), (q13, .inl (cI, (4, .inl (fun _ => 0)))), (q20, .inl (cI, (4, .inl (fun _ => 0))))] := hD
  refine lv_aload_n hx hb dX1_init_25 rfl (lv_at hl 0 rfl) ?_
  refine lv_bipush (v := 32) hx hb dX1_init_26 (by decide) ?_
  refine zn_newa hx hb (hts _ (ch_2 _ (List.mem_of_getElem? (l := wsL_law_r2) (i := 8) rfl))) hK hP hD hS hA (n := 32) (N := 32) (by decide) (by decide) (by decide) (Nat.le_of_ble_eq_true rfl) (Nat.le_of_ble_eq_true rfl) dX1_init_28 (fun q28 H hP hD hS => ?_)
  have hP : va_P D vwCl [(h0, .inr (1, [.null, .null, .ref q6, .ref q13, .ref q20, .null, .null, .int 0, .int 0, .int 0])), (q6, .inl (cI, (4, .inl (fun _ => 0)))), (q13, .inl (cI, (4, .inl (fun _ => 0)))), (q20, .inl (cI, (4, .inl (fun _ => 0)))), (q28, .inl (cI, (32, .inl (fun _ => 0))))] H := hP
  have hD : va_D A [(h0, .inr (1, [.null, .null, .ref q6, .ref q13, .ref q20, .null, .null, .int 0, .int 0, .int 0])), (q6, .inl (cI, (4, .inl (fun _ => 0)))), (q13, .inl (cI, (4, .inl (fun _ => 0)))), (q20, .inl (cI, (4, .inl (fun _ => 0)))), (q28, .inl (cI, (32, .inl (fun _ => 0))))] := hD
  refine va_putF (D := D) (ci := 1) (v := .ref q28) (ty := .array .int) (C := RX1) (T := TX1) (N := 10) hx hb hts inlX1 tyX1 tyX1_ok nmX1 hown hK hP hD hS 0 rfl rfl 5 (by decide) (hts _ (ch_3 _ (List.mem_of_getElem? (l := wsL_law_r3) (i := 19) rfl))) (fun _ h9 => h9) rfl hin rfl (by decide +kernel) rfl rfl (Nat.le_of_ble_eq_true rfl) dX1_init_30 (fun H locs hP hD hS => ?_)
  have hP : va_P D vwCl [(h0, .inr (1, [.null, .null, .ref q6, .ref q13, .ref q20, .ref q28, .null, .int 0, .int 0, .int 0])), (q6, .inl (cI, (4, .inl (fun _ => 0)))), (q13, .inl (cI, (4, .inl (fun _ => 0)))), (q20, .inl (cI, (4, .inl (fun _ => 0)))), (q28, .inl (cI, (32, .inl (fun _ => 0))))] H := hP
  have hD : va_D A [(h0, .inr (1, [.null, .null, .ref q6, .ref q13, .ref q20, .ref q28, .null, .int 0, .int 0, .int 0])), (q6, .inl (cI, (4, .inl (fun _ => 0)))), (q13, .inl (cI, (4, .inl (fun _ => 0)))), (q20, .inl (cI, (4, .inl (fun _ => 0)))), (q28, .inl (cI, (32, .inl (fun _ => 0))))] := hD
  refine lv_aload_n hx hb dX1_init_33 rfl (lv_at hl 0 rfl) ?_
  refine lv_iconst (v := 5) hx hb dX1_init_34 (by decide) ?_
  refine zn_newa hx hb (hts _ (ch_2 _ (List.mem_of_getElem? (l := wsL_law_r2) (i := 8) rfl))) hK hP hD hS hA (n := 5) (N := 5) (by decide) (by decide) (by decide) (Nat.le_of_ble_eq_true rfl) (Nat.le_of_ble_eq_true rfl) dX1_init_35 (fun q35 H hP hD hS => ?_)
  have hP : va_P D vwCl [(h0, .inr (1, [.null, .null, .ref q6, .ref q13, .ref q20, .ref q28, .null, .int 0, .int 0, .int 0])), (q6, .inl (cI, (4, .inl (fun _ => 0)))), (q13, .inl (cI, (4, .inl (fun _ => 0)))), (q20, .inl (cI, (4, .inl (fun _ => 0)))), (q28, .inl (cI, (32, .inl (fun _ => 0)))), (q35, .inl (cI, (5, .inl (fun _ => 0))))] H := hP
  have hD : va_D A [(h0, .inr (1, [.null, .null, .ref q6, .ref q13, .ref q20, .ref q28, .null, .int 0, .int 0, .int 0])), (q6, .inl (cI, (4, .inl (fun _ => 0)))), (q13, .inl (cI, (4, .inl (fun _ => 0)))), (q20, .inl (cI, (4, .inl (fun _ => 0)))), (q28, .inl (cI, (32, .inl (fun _ => 0)))), (q35, .inl (cI, (5, .inl (fun _ => 0))))] := hD
  refine va_putF (D := D) (ci := 1) (v := .ref q35) (ty := .array .int) (C := RX1) (T := TX1) (N := 10) hx hb hts inlX1 tyX1 tyX1_ok nmX1 hown hK hP hD hS 0 rfl rfl 6 (by decide) (hts _ (ch_3 _ (List.mem_of_getElem? (l := wsL_law_r3) (i := 20) rfl))) (fun _ h9 => h9) rfl hin rfl (by decide +kernel) rfl rfl (Nat.le_of_ble_eq_true rfl) dX1_init_37 (fun H locs hP hD hS => ?_)
  have hP : va_P D vwCl [(h0, .inr (1, [.null, .null, .ref q6, .ref q13, .ref q20, .ref q28, .ref q35, .int 0, .int 0, .int 0])), (q6, .inl (cI, (4, .inl (fun _ => 0)))), (q13, .inl (cI, (4, .inl (fun _ => 0)))), (q20, .inl (cI, (4, .inl (fun _ => 0)))), (q28, .inl (cI, (32, .inl (fun _ => 0)))), (q35, .inl (cI, (5, .inl (fun _ => 0))))] H := hP
  have hD : va_D A [(h0, .inr (1, [.null, .null, .ref q6, .ref q13, .ref q20, .ref q28, .ref q35, .int 0, .int 0, .int 0])), (q6, .inl (cI, (4, .inl (fun _ => 0)))), (q13, .inl (cI, (4, .inl (fun _ => 0)))), (q20, .inl (cI, (4, .inl (fun _ => 0)))), (q28, .inl (cI, (32, .inl (fun _ => 0)))), (q35, .inl (cI, (5, .inl (fun _ => 0))))] := hD
  refine lv_aload_n hx hb dX1_init_40 rfl (lv_at hl 0 rfl) ?_
  refine lv_aload_n hx hb dX1_init_41 rfl (lv_at hl 1 rfl) ?_
  refine va_putF (D := D) (ci := 1) (v := .ref a1) (ty := .object "NameBook$Book") (C := RX1) (T := TX1) (N := 10) hx hb hts inlX1 tyX1 tyX1_ok nmX1 hown hK hP hD hS 0 rfl rfl 0 (by decide) (hts _ (ch_3 _ (List.mem_of_getElem? (l := wsL_law_r3) (i := 21) rfl))) (fun _ h9 => h9) rfl hin rfl (by decide +kernel) rfl rfl (Nat.le_of_ble_eq_true rfl) dX1_init_42 (fun H locs hP hD hS => ?_)
  have hP : va_P D vwCl [(h0, .inr (1, [.ref a1, .null, .ref q6, .ref q13, .ref q20, .ref q28, .ref q35, .int 0, .int 0, .int 0])), (q6, .inl (cI, (4, .inl (fun _ => 0)))), (q13, .inl (cI, (4, .inl (fun _ => 0)))), (q20, .inl (cI, (4, .inl (fun _ => 0)))), (q28, .inl (cI, (32, .inl (fun _ => 0)))), (q35, .inl (cI, (5, .inl (fun _ => 0))))] H := hP
  have hD : va_D A [(h0, .inr (1, [.ref a1, .null, .ref q6, .ref q13, .ref q20, .ref q28, .ref q35, .int 0, .int 0, .int 0])), (q6, .inl (cI, (4, .inl (fun _ => 0)))), (q13, .inl (cI, (4, .inl (fun _ => 0)))), (q20, .inl (cI, (4, .inl (fun _ => 0)))), (q28, .inl (cI, (32, .inl (fun _ => 0)))), (q35, .inl (cI, (5, .inl (fun _ => 0))))] := hD
  refine lv_aload_n hx hb dX1_init_45 rfl (lv_at hl 0 rfl) ?_
  refine lv_aload_n hx hb dX1_init_46 rfl (lv_at hl 2 rfl) ?_
  refine va_putF (D := D) (ci := 1) (v := .ref a2) (ty := .object "NameBook$Walk") (C := RX1) (T := TX1) (N := 10) hx hb hts inlX1 tyX1 tyX1_ok nmX1 hown hK hP hD hS 0 rfl rfl 1 (by decide) (hts _ (ch_3 _ (List.mem_of_getElem? (l := wsL_law_r3) (i := 22) rfl))) (fun _ h9 => h9) rfl hin rfl (by decide +kernel) rfl rfl (Nat.le_of_ble_eq_true rfl) dX1_init_47 (fun H locs hP hD hS => ?_)
  have hP : va_P D vwCl [(h0, .inr (1, [.ref a1, .ref a2, .ref q6, .ref q13, .ref q20, .ref q28, .ref q35, .int 0, .int 0, .int 0])), (q6, .inl (cI, (4, .inl (fun _ => 0)))), (q13, .inl (cI, (4, .inl (fun _ => 0)))), (q20, .inl (cI, (4, .inl (fun _ => 0)))), (q28, .inl (cI, (32, .inl (fun _ => 0)))), (q35, .inl (cI, (5, .inl (fun _ => 0))))] H := hP
  have hD : va_D A [(h0, .inr (1, [.ref a1, .ref a2, .ref q6, .ref q13, .ref q20, .ref q28, .ref q35, .int 0, .int 0, .int 0])), (q6, .inl (cI, (4, .inl (fun _ => 0)))), (q13, .inl (cI, (4, .inl (fun _ => 0)))), (q20, .inl (cI, (4, .inl (fun _ => 0)))), (q28, .inl (cI, (32, .inl (fun _ => 0)))), (q35, .inl (cI, (5, .inl (fun _ => 0))))] := hD
  exact W.vret hx hb hr (fun t ht hW => ⟨⟨[q6, q13, q20, q28, q35], rfl, trivial, by rw [ht]; exact hP, hD⟩, hS.F ht⟩) hS.2.2 dX1_init_50
