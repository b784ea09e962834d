/-- the table at the start -/
def zl_s0 : zw_S := fun k => if k = 2 ∨ k = 14 ∨ k = 26 then (upd (upd (upd (upd (upd (upd (upd (upd (fun _ => 0) 0 10) 1 10) 2 10) 3 10) 4 10) 5 10) 6 10) 7 10) else if k = 12 ∨ k = 24 ∨ k = 36 then (upd (upd (upd (upd (upd (upd (upd (upd (upd (upd (fun _ => 0) 0 (-1)) 1 (-1)) 2 (-1)) 3 (-1)) 4 (-1)) 5 (-1)) 6 (-1)) 7 (-1)) 8 (-1)) 9 (-1)) else if k = 58 then (upd (upd (upd (upd (upd (upd (upd (upd (upd (upd (upd (upd (upd (upd (upd (upd (upd (upd (upd (fun _ => 0) 1 1) 4 10) 6 10) 8 10) 10 10) 12 10) 14 10) 16 10) 18 10) 132 (-1)) 133 (-1)) 134 (-1)) 135 (-1)) 136 (-1)) 137 (-1)) 138 (-1)) 139 (-1)) 140 (-1)) 141 (-1)) else if k = 1 ∨ k = 13 ∨ k = 25 then (fun j => if j = 1 then 1 else 0) else (fun _ => 0)
set_option maxRecDepth 100000 in
set_option maxHeartbeats 16000000 in
theorem whole_of {p : Program} {e : Env} {s : State} {m : MethodId} {below : List Frame} {meth : Method} {c : Code} (l : Launch) {b L : Nat} {xs : Nat → Int32} (hL : L ≤ 3072) (C0 : lw_At p s m meth c b L xs) (I : zw_S → Prop) (hI0 : I zl_s0) (hst : ∀ n, n < 43 → ∀ σ, I σ → ∀ a1 a2 a3 a4 a5 : Int32, ∃ r σ1 σ2, zl_opX n σ a1 a2 a3 a4 a5 = some (r, σ1) ∧ zl_opM n σ1 a1 a2 a3 a4 a5 = some (r, σ2) ∧ I σ2) : W p l e room_1 s m #[Value.ref b] below meth c s.heap [] 0 0 (lw_Z below #[Value.ref b] s) (entryFrame m ([Value.ref b] : List Value).toArray 4) := by
  obtain ⟨hx, hb, hr, hml, hown, hts0, hX, hbl, hlocks, hgv⟩ := id C0
  obtain ⟨tK, aK, aV, hZ1, hZ2, hZ3, hZ4, hZ5, hZ6, hZ7⟩ := zl_prem hts0 hgv
  have hts : ∀ w ∈ wsL_law, w.before #[Value.ref b] s = true := fun w h => hts0 w (wsL_law_in w h)
  have hb : c.code = cL_law := hb
  have hown : s.vm.findClass RL = some m.cls := hown
  have hA : ∀ q : Nat, s.heap.size ≤ q → zl_A s q := fun _ h => h
  obtain ⟨cX0, iX0, kX0⟩ := u_known (C := RX0) (T := TX0) (N := 15) (n := 15) hts inlX0 (hts (.instantiable RX0 15) (ch_1 _ (List.mem_of_getElem? (l := wsL_law_r1) (i := 13) rfl)))
  obtain ⟨cX1, iX1, kX1⟩ := u_known (C := RX1) (T := TX1) (N := 10) (n := 10) hts inlX1 (hts (.instantiable RX1 10) (ch_1 _ (List.mem_of_getElem? (l := wsL_law_r1) (i := 23) rfl)))
  obtain ⟨cX3, iX3, kX3⟩ := u_known (C := RX3) (T := TX3) (N := 3) (n := 3) hts inlX3 (hts (.instantiable RX3 3) (ch_2 _ (List.mem_of_getElem? (l := wsL_law_r2) (i := 10) rfl)))
  obtain ⟨cX4, iX4, kX4⟩ := u_known (C := RX4) (T := TX4) (N := 6) (n := 6) hts inlX4 (hts (.instantiable RX4 6) (ch_2 _ (List.mem_of_getElem? (l := wsL_law_r2) (i := 3) rfl)))
  obtain ⟨cX5, iX5, kX5⟩ := u_known (C := RX5) (T := TX5) (N := 1) (n := 1) hts inlX5 (hts (.instantiable RX5 1) (ch_1 _ (List.mem_of_getElem? (l := wsL_law_r1) (i := 19) rfl)))
  obtain ⟨cX6, iX6, kX6⟩ := u_known (C := RX6) (T := TX6) (N := 9) (n := 9) hts inlX6 (hts (.instantiable RX6 9) (ch_1 _ (List.mem_of_getElem? (l := wsL_law_r1) (i := 1) rfl)))
  obtain ⟨cX7, iX7, kX7⟩ := u_known (C := RX7) (T := TX7) (N := 18) (n := 18) hts inlX7 (hts (.instantiable RX7 18) (ch_1 _ (List.mem_of_getElem? (l := wsL_law_r1) (i := 4) rfl)))
  obtain ⟨D, hKc⟩ : ∃ D : va_G, ∀ (k : Nat) (q : vw_C), vwCl[k]? = some q → u_Kn s q.1 q.2.1 q.2.2 (D.1 k) (D.2 k) := by
    refine ⟨(fun k => if k = 0 then cX0 else if k = 1 then cX1 else if k = 2 then cX3 else if k = 3 then cX4 else if k = 4 then cX5 else if k = 5 then cX6 else cX7, fun k => if k = 0 then iX0 else if k = 1 then iX1 else if k = 2 then iX3 else if k = 3 then iX4 else if k = 4 then iX5 else if k = 5 then iX6 else iX7), ?_⟩
    intro k q hq
    match k, hq with
    | 0, hq => cases hq; exact kX0
    | 1, hq => cases hq; exact kX1
    | 2, hq => cases hq; exact kX3
    | 3, hq => cases hq; exact kX4
    | 4, hq => cases hq; exact kX5
    | 5, hq => cases hq; exact kX6
    | 6, hq => cases hq; exact kX7
    | k + 7, hq => simp [vwCl] at hq
  obtain ⟨cI, kI, compI, f1, f2, f3⟩ := Cond.arrayClass_spec (hts0 (.arrayClass .int) (List.mem_of_getElem? (i := 191) (by decide +kernel)))
  have hAO : va_AO "NameBook$Sheet" s := va_AO.of (hts0 (.arrayOver (.object "NameBook$Sheet")) (List.mem_of_getElem? (i := 268) (by decide +kernel)))
  obtain ⟨compS, cS, kS, g1, g2, g3, g4, g5⟩ := Cond.arrayOver_spec (hts0 (.arrayOver (.object "NameBook$Sheet")) (List.mem_of_getElem? (i := 268) (by decide +kernel)))
  have hK : va_K D vwCl [(cI, .int), (cS, .object "NameBook$Sheet")] s := by
    refine ⟨hKc, fun k q h => ?_⟩
    match k, h with
    | 0, h => cases h; exact ⟨fun n z => ⟨fun k h => (by cases h), kI, f2, compI, f3⟩, f1⟩
    | 1, h => cases h; exact ⟨fun n z => ⟨fun k h => (by cases h), kS, g3, compS, g4⟩, ⟨kS, compS, g3, g4, g1, g5⟩⟩
    | k + 2, h => simp at h
  have hN1 : va_Nw (.methodLinkNest RX6 24 yX5_init "NameBook") s := va_Nw.of rfl (hts0 _ (List.mem_of_getElem? (i := 194) (by decide +kernel)))
  have hN2 : va_Nw (.methodLinkNest RX6 40 yX4_init "NameBook") s := va_Nw.of rfl (hts0 _ (List.mem_of_getElem? (i := 243) (by decide +kernel)))
  have hN3 : va_Nw (.methodLinkNest RX6 55 yX3_init "NameBook") s := va_Nw.of rfl (hts0 _ (List.mem_of_getElem? (i := 270) (by decide +kernel)))
  have hS : va_S (zl_A s) s.heap s.heap [] := va_S.rf
  have hP : va_P D vwCl [] s.heap := fun k q h => by simp at h
  have hD : va_D (zl_A s) [] := ⟨fun i j p q h => by simp at h, fun k q h => by simp at h⟩
  have hl := lv_entry ([.ref b]) (n := 4) (Nat.le_of_ble_eq_true rfl)
  rw [lg_entry_eq]
  generalize (lg_sl ([.ref b]) ++ List.replicate (4 - (lg_sl ([.ref b])).length) Slot.unset).toArray = ls at hl ⊢
  have hl : lv_has ls 4 [(0, .ref b)] := hl
  refine va_new (ci := 5) (fs := [.null, .null, .null, .null, .null, .null, .null, .null, .int 0]) (C := RX6) (T := TX6) (N := 9) hx hb hts inlX6 tyX6 tyX6_ok hown (hts _ (ch_1 _ (List.mem_of_getElem? (l := wsL_law_r1) (i := 0) rfl))) (hts _ (ch_1 _ (List.mem_of_getElem? (l := wsL_law_r1) (i := 1) rfl))) (hts _ (ch_1 _ (List.mem_of_getElem? (l := wsL_law_r1) (i := 2) rfl))) hK hP hD hS hA rfl zn_defX6 (Nat.le_of_ble_eq_true rfl) (Nat.le_of_ble_eq_true rfl) dL_law_0 (fun q0 H hP hD hS => ?_)
  have hP : va_P D vwCl [(q0, .inr (5, [.null, .null, .null, .null, .null, .null, .null, .null, .int 0]))] H := hP
  have hD : va_D (zl_A s) [(q0, .inr (5, [.null, .null, .null, .null, .null, .null, .null, .null, .int 0]))] := hD
  refine lv_dup hx hb dL_law_3 rfl ?_
  have hPc := hP.sub (ws' := [(q0, .inr (5, [.null, .null, .null, .null, .null, .null, .null, .null, .int 0]))]) [0] rfl
  have hDc := hD.sub (ws' := [(q0, .inr (5, [.null, .null, .null, .null, .null, .null, .null, .null, .int 0]))]) [0] (by decide) rfl
  have hFc := va_free (wc := [(q0, .inr (5, [.null, .null, .null, .null, .null, .null, .null, .null, .int 0]))]) hD hS hA [0] rfl
  refine va_callv (va_runI (As := []) (rest := [.ref q0]) ⟨hx, hb, hml, hown, hts⟩ (k_X6_init l D cI cS q0 H.size) ⟨callB_of 0 hts (zm_in (c := .tt) (ch_1 _ (List.mem_of_getElem? (l := wsL_law_r1) (i := 8) rfl))) rfl rfl rfl (hts _ (ch_1 _ (List.mem_of_getElem? (l := wsL_law_r1) (i := 2) rfl))) (hts _ (ch_1 _ (List.mem_of_getElem? (l := wsL_law_r1) (i := 6) rfl))) ⟨by decide, by decide, by decide +kernel⟩ ⟨Nat.le_of_ble_eq_true rfl, Nat.le_of_ble_eq_true rfl⟩, rfl, hts _ (ch_1 _ (List.mem_of_getElem? (l := wsL_law_r1) (i := 7) rfl))⟩ ⟨fun a U g mk q => by obtain ⟨q0, q1, qP, qK, qD, qA, n1, n2, n3⟩ := q; exact ⟨q0, q1, qP, va_K.moved (u := U) (U := U.calling g mk a) (Vm.Alike.refl U.vm) qK, qD, va_AO.moved (u := U) (U := U.calling g mk a) (Vm.Alike.refl U.vm) qA, va_Nw.same (u := U) (U := U.calling g mk a) rfl rfl n1, va_Nw.same (u := U) (U := U.calling g mk a) rfl rfl n2, va_Nw.same (u := U) (U := U.calling g mk a) rfl rfl n3⟩, fun U hU hW => ⟨rfl, by rw [hU], by rw [hU]; exact hPc, va_K.moved hW.alike hK, hDc.weaken (fun _ _ _ _ => trivial), va_AO.moved hW.alike hAO, hN1.warmM hW, hN2.warmM hW, hN3.warmM hW⟩⟩ rfl rfl hl.1 rfl (lv_room (Nat.le_of_ble_eq_true rfl)) dL_law_4 ⟨Nat.le_of_ble_eq_true rfl, Nat.le_of_ble_eq_true rfl⟩) hS (fun q _ h => hFc q h) hFc (fun u t H1 locs ht hvm _ hB hz1 hk1 hS => ?_)
  obtain ⟨hP1, hD1⟩ := hB
  rw [ht] at hP1
  obtain ⟨hP, hD⟩ := va_join (wr := []) (w1 := kw_X6 cI cS q0 u) hP hD [0] [] rfl rfl (by decide) (by decide) hk1 hFc hP1 hD1
  generalize H1 = H at hP hS ⊢
  have hP : va_P D vwCl (kw_X6 cI cS q0 u) H := hP
  have hD : va_D (zl_A s) (kw_X6 cI cS q0 u) := hD
  refine lv_astore_n (lv' := [(1, .ref q0), (0, .ref b)]) hx hb dL_law_7 rfl hl (by decide) rfl (fun ls hl => ?_)
  refine va_new (ci := 6) (fs := [.null, .null, .null, .null, .int 0, .null, .null, .null, .null, .int 0, .int 0, .int 0, .int 0, .int 0, .int 0, .null, .null, .null]) (C := RX7) (T := TX7) (N := 18) hx hb hts inlX7 tyX7 tyX7_ok hown (hts _ (ch_1 _ (List.mem_of_getElem? (l := wsL_law_r1) (i := 3) rfl))) (hts _ (ch_1 _ (List.mem_of_getElem? (l := wsL_law_r1) (i := 4) rfl))) (hts _ (ch_1 _ (List.mem_of_getElem? (l := wsL_law_r1) (i := 5) rfl))) hK hP hD hS hA rfl zn_defX7 (Nat.le_of_ble_eq_true rfl) (Nat.le_of_ble_eq_true rfl) dL_law_8 (fun q8 H hP hD hS => ?_)
  have hP : va_P D vwCl (kw_X6 cI cS q0 u ++ [(q8, .inr (6, [.null, .null, .null, .null, .int 0, .null, .null, .null, .null, .int 0, .int 0, .int 0, .int 0, .int 0, .int 0, .null, .null, .null]))]) H := hP
  have hD : va_D (zl_A s) (kw_X6 cI cS q0 u ++ [(q8, .inr (6, [.null, .null, .null, .null, .int 0, .null, .null, .null, .null, .int 0, .int 0, .int 0, .int 0, .int 0, .int 0, .null, .null, .null]))]) := hD
  refine lv_dup hx hb dL_law_11 rfl ?_
  have hPc := hP.sub (ws' := [(q8, .inr (6, [.null, .null, .null, .null, .int 0, .null, .null, .null, .null, .int 0, .int 0, .int 0, .int 0, .int 0, .int 0, .null, .null, .null]))]) [57] rfl
  have hDc := hD.sub (ws' := [(q8, .inr (6, [.null, .null, .null, .null, .int 0, .null, .null, .null, .null, .int 0, .int 0, .int 0, .int 0, .int 0, .int 0, .null, .null, .null]))]) [57] (by decide) rfl
  have hFc := va_free (wc := [(q8, .inr (6, [.null, .null, .null, .null, .int 0, .null, .null, .null, .null, .int 0, .int 0, .int 0, .int 0, .int 0, .int 0, .null, .null, .null]))]) hD hS hA [57] rfl
  refine va_callv (va_runI (As := []) (rest := [.ref q8]) ⟨hx, hb, hml, hown, hts⟩ (k_X7_init l D cI cS q8 H.size) ⟨callB_of 0 hts (zm_in (c := .tt) (ch_4 _ (List.mem_of_getElem? (l := wsL_law_r4) (i := 9) rfl))) rfl rfl rfl (hts _ (ch_1 _ (List.mem_of_getElem? (l := wsL_law_r1) (i := 5) rfl))) (hts _ (ch_4 _ (List.mem_of_getElem? (l := wsL_law_r4) (i := 7) rfl))) ⟨by decide, by decide, by decide +kernel⟩ ⟨Nat.le_of_ble_eq_true rfl, Nat.le_of_ble_eq_true rfl⟩, rfl, hts _ (ch_4 _ (List.mem_of_getElem? (l := wsL_law_r4) (i := 8) rfl))⟩ ⟨fun a U g mk q => by obtain ⟨q0, q1, qP, qK, qD⟩ := q; exact ⟨q0, q1, qP, va_K.moved (u := U) (U := U.calling g mk a) (Vm.Alike.refl U.vm) qK, qD⟩, fun U hU hW => ⟨rfl, by rw [hU], by rw [hU]; exact hPc, va_K.moved hW.alike hK, hDc.weaken (fun _ _ _ _ => trivial)⟩⟩ rfl rfl hl.1 rfl (lv_room (Nat.le_of_ble_eq_true rfl)) dL_law_12 ⟨Nat.le_of_ble_eq_true rfl, Nat.le_of_ble_eq_true rfl⟩) hS (fun q _ h => hFc q h) hFc (fun v t H1 locs ht hvm _ hB hz1 hk1 hS => ?_)
  obtain ⟨hP1, hD1⟩ := hB
  rw [ht] at hP1
  obtain ⟨hP, hD⟩ := va_join (wr := kw_X6 cI cS q0 u) (w1 := kw_X7 cI cS q8 v) hP hD [57] [0, 1, 2, 3, 4, 5, 6, 7, 8, 9, 10, 11, 12, 13, 14, 15, 16, 17, 18, 19, 20, 21, 22, 23, 24, 25, 26, 27, 28, 29, 30, 31, 32, 33, 34, 35, 36, 37, 38, 39, 40, 41, 42, 43, 44, 45, 46, 47, 48, 49, 50, 51, 52, 53, 54, 55, 56] rfl rfl (by decide) (by decide) hk1 hFc hP1 hD1
  generalize H1 = H at hP hS ⊢
  refine lv_astore_n (lv' := [(2, .ref q8), (1, .ref q0), (0, .ref b)]) hx hb dL_law_15 rfl hl (by decide) rfl (fun ls hl => ?_)
  refine lv_iconst (v := 0) hx hb dL_law_16 (by decide) ?_
  refine lv_istore_n (lv' := [(3, .int 0), (2, .ref q8), (1, .ref q0), (0, .ref b)]) hx hb dL_law_17 rfl hl (by decide) rfl (fun ls hl => ?_)
  obtain ⟨P, hPd⟩ : ∃ P : zw_P, P = (D, (fun k => ([q0, (u.getD 0 0), (u.getD 10 0), (u.getD 1 0), (u.getD 2 0), (u.getD 3 0), (u.getD 4 0), (u.getD 5 0), (u.getD 6 0), (u.getD 7 0), (u.getD 8 0), (u.getD 9 0), (u.getD 11 0), (u.getD 12 0), (u.getD 22 0), (u.getD 13 0), (u.getD 14 0), (u.getD 15 0), (u.getD 16 0), (u.getD 17 0), (u.getD 18 0), (u.getD 19 0), (u.getD 20 0), (u.getD 21 0), (u.getD 23 0), (u.getD 24 0), (u.getD 34 0), (u.getD 25 0), (u.getD 26 0), (u.getD 27 0), (u.getD 28 0), (u.getD 29 0), (u.getD 30 0), (u.getD 31 0), (u.getD 32 0), (u.getD 33 0), (u.getD 35 0), (u.getD 36 0), (u.getD 37 0), (u.getD 38 0), (u.getD 39 0), (u.getD 40 0), (u.getD 41 0), (u.getD 42 0), (u.getD 43 0), (u.getD 44 0), (u.getD 45 0), (u.getD 46 0), (u.getD 48 0), (u.getD 49 0), (u.getD 50 0), (u.getD 51 0), (u.getD 52 0), (u.getD 53 0), (u.getD 54 0), (u.getD 55 0), (u.getD 47 0), q8, (v.getD 0 0), (v.getD 1 0), (v.getD 2 0), (v.getD 3 0), (v.getD 4 0), (v.getD 5 0), (v.getD 6 0), (v.getD 7 0), (v.getD 8 0), (v.getD 9 0), (v.getD 10 0)] : List Nat).getD k 0), cI, cS, tK, aK, aV) := ⟨_, rfl⟩
  have hPw : va_P P.1 vwCl (zw_W P zl_s0) H := by
    subst hPd
    exact hP.sub (ws' := zw_W _ zl_s0) [0, 1, 11, 2, 3, 4, 5, 6, 7, 8, 9, 10, 12, 13, 23, 14, 15, 16, 17, 18, 19, 20, 21, 22, 24, 25, 35, 26, 27, 28, 29, 30, 31, 32, 33, 34, 36, 37, 38, 39, 40, 41, 42, 43, 44, 45, 46, 47, 49, 50, 51, 52, 53, 54, 55, 56, 48, 57, 58, 59, 60, 61, 62, 63, 64, 65, 66, 67, 68] rfl
  have hadA : ∀ k : Nat, k < 69 → s.heap.size ≤ zw_ad P k := by
    have hD3 : va_D (zl_A s) (zw_W P zl_s0) := by
      subst hPd
      exact hD.sub (ws' := zw_W _ zl_s0) [0, 1, 11, 2, 3, 4, 5, 6, 7, 8, 9, 10, 12, 13, 23, 14, 15, 16, 17, 18, 19, 20, 21, 22, 24, 25, 35, 26, 27, 28, 29, 30, 31, 32, 33, 34, 36, 37, 38, 39, 40, 41, 42, 43, 44, 45, 46, 47, 49, 50, 51, 52, 53, 54, 55, 56, 48, 57, 58, 59, 60, 61, 62, 63, 64, 65, 66, 67, 68] (by decide) rfl
    intro k hk
    exact hD3.2 k _ (zw_at P zl_s0 hk)
  have hadI : ∀ i j : Nat, i < 69 → j < 69 → zw_ad P i = zw_ad P j → i = j := by
    have hD3 : va_D (zl_A s) (zw_W P zl_s0) := by
      subst hPd
      exact hD.sub (ws' := zw_W _ zl_s0) [0, 1, 11, 2, 3, 4, 5, 6, 7, 8, 9, 10, 12, 13, 23, 14, 15, 16, 17, 18, 19, 20, 21, 22, 24, 25, 35, 26, 27, 28, 29, 30, 31, 32, 33, 34, 36, 37, 38, 39, 40, 41, 42, 43, 44, 45, 46, 47, 49, 50, 51, 52, 53, 54, 55, 56, 48, 57, 58, 59, 60, 61, 62, 63, 64, 65, 66, 67, 68] (by decide) rfl
    intro i j hi hj hij
    exact hD3.1 i j _ _ (zw_at P zl_s0 hi) (zw_at P zl_s0 hj) hij
  have hAP : ∀ q, zw_A P q → zl_A s q := by
    intro q hq
    obtain ⟨k, hk, rfl⟩ := hq
    exact hadA k hk
  have hKP : zw_K P s := by
    have e1 : P.1 = D := by rw [hPd]
    have e2 : zw_tys P = [(cI, .int), (cS, .object "NameBook$Sheet")] := by rw [hPd]
    have e3 : zw_tK P = tK := by rw [hPd]
    have e4 : zw_aK P = aK := by rw [hPd]
    have e5 : zw_aV P = aV := by rw [hPd]
    refine ⟨by rw [e1, e2]; exact hK, hadI, by rw [e3]; exact hZ1.narrow hAP, by rw [e3]; exact hZ2.narrow hAP, by rw [e4, e5]; exact hZ3.narrow hAP, hZ4.narrow hAP, by rw [e4]; exact hZ5, by rw [e4]; exact hZ6, hZ7.narrow hAP⟩
  have e0 : zw_ad P 0 = q0 := by rw [hPd]; rfl
  have e57 : zw_ad P 57 = q8 := by rw [hPd]; rfl
  have E : zl_f (p, l, e, room_1, s, m, #[Value.ref b], below, meth, c) P b L xs := ⟨hx, hb, hr, hml, hown, hts, hKP, rfl, hlocks, hX, hbl, fun q hq => hAP q hq, rfl⟩
  have hlp := zl_loop hL E I hst (L + 1) 0 0 (Nat.zero_le L) (by omega) nI_0.symm zl_s0 hI0
  exact hlp H _ ls hPw hS (by rw [e0, e57]; exact lv_sub hl [3, 2, 1, 0] rfl)
