/-! the class goes through the ways -/
section W2
variable {σ s β γ : zw_S} {T N y k : Nat} {hd : Nat → Int32} {g : Nat → Int32}
/-- what the class holds of the best way -/
def RX (s : zw_S) (ts : List Nat) (b : Int32 × (Nat → Int32)) : Prop := s 39 9 = b.1 ∧ (b.1 ≠ -1 → ∀ j p, ts[j]? = some p → s 42 j = b.2 p)
/-- what stays while the class goes through the ways -/
def Kp (s s2 : zw_S) : Prop := FG s s2 ∧ s2 39 7 = s 39 7 ∧ s2 40 = s 40 ∧ s2 43 = s 43 ∧ s2 44 = s 44
theorem Kp.refl : Kp s s := ⟨FG.refl, rfl, rfl, rfl, rfl⟩
theorem Kp.trans {a b c : zw_S} (h1 : Kp a b) (h2 : Kp b c) : Kp a c := ⟨FG.trans h1.1 h2.1, h2.2.1.trans h1.2.1, h2.2.2.1.trans h1.2.2.1, h2.2.2.2.1.trans h1.2.2.2.1, h2.2.2.2.2.trans h1.2.2.2.2⟩
theorem Kp.tk {s2 : zw_S} {ts : List Nat} (h : Kp s s2) (ht : Tk s ts) : Tk s2 ts := ⟨h.2.1.trans ht.1, fun j p hj => by rw [h.2.2.1]; exact ht.2 j p hj⟩
theorem Kp.gn {s2 : zw_S} {ts : List Nat} {n q : Nat} (h : Kp s s2) (ht : Gn β n N ts q s) : Gn β n N ts q s2 := ⟨fun i a b => by rw [h.2.2.2.2]; exact ht.1 i a b, fun i p o a b c => by rw [h.2.2.2.1]; exact ht.2 i p o a b c⟩
theorem Kp.w41 {j : Nat} {v : Int32} : Kp s (zw_wr s 41 j v) := ⟨FG.wr (by omega), by rw [wr_f (by decide)], wr_f (by decide), wr_f (by decide), wr_f (by decide)⟩
theorem app_at {pre l : List Nat} {p : Nat} : (pre ++ p :: l)[pre.length]? = some p := by
  rw [List.getElem?_append_right (by omega), Nat.sub_self]
  rfl
theorem c_weigh10 {ts : List Nat} {n : Nat} (hl : ts.length ≤ 4) (hts : ∀ p, p ∈ ts → p < 8) (ht : Tk s ts) (hg : ∀ j p, ts[j]? = some p → s 41 j = g p) : ∀ (l pre : List Nat) (m : Nat) (γ : zw_S), pre ++ l = ts → l.length < m → m_X1_weigh_10 1 m (tr s β γ hd) (nI n) (nI pre.length) = m_X1_weigh_44 1 (tr s β (swr γ g l) hd) (nI n) := by
  intro l
  induction l with
  | nil =>
    intro pre m γ he hm
    obtain ⟨m, rfl⟩ : ∃ z, m = z + 1 := ⟨m - 1, by omega⟩
    rw [List.append_nil] at he
    unfold m_X1_weigh_10
    rw [tr_o (by omega), ht.1, he, if_pos (nI_le (by omega) (by omega))]
    rfl
  | cons p l ih =>
    intro pre m γ he hm
    obtain ⟨m, rfl⟩ : ∃ z, m = z + 1 := ⟨m - 1, by omega⟩
    have hlen : ts.length = pre.length + (l.length + 1) := by rw [← he, List.length_append, List.length_cons]
    have hat : ts[pre.length]? = some p := by rw [← he]; exact app_at
    have hp : p < 8 := hts p (by rw [← he]; simp)
    rw [List.length_cons] at hm
    unfold m_X1_weigh_10
    rw [tr_o (by omega), ht.1, if_neg (nI_ge (by omega) (by omega)), rd_i (by omega) (by omega), tr_o (by omega), ht.2 _ _ hat, rd_i (by omega) (by omega), tr_o (by omega), hg _ _ hat, tt_w7 hp, nm_ok, nI_1]
    have := ih (pre ++ [p]) m (zw_wr γ 7 p (g p)) (by rw [List.append_assoc]; exact he) (by omega)
    rw [List.length_append] at this
    exact this
theorem zcp4 {K : Nat} (h : K ≤ 4) : zcp 4 4 0 0 (nI K) = true := by
  unfold zcp
  rw [nc (by omega)]
  have : ¬ nI K < 0 := nI_pos (by omega)
  simp [this, h]
theorem c_weigh (h : Wf T N y β) {n : Nat} (hn : n ≤ 100) (hy : y + n ≤ 5000) (h40 : ∀ p, p < N → β 8 p = 40 → β 7 p = -1) (hl : (tks β N).length ≤ 4) (ht : Tk s (tks β N)) (hv : Vl (frb β) (tks β N) g) (hg : ∀ j p, (tks β N)[j]? = some p → s 41 j = g p) {b : Int32 × (Nat → Int32)} (hb : RX s (tks β N) b) : ∃ s2 γ2 hd2, m_X1_weigh 1 (tr s β γ hd) (nI n) = some (tr s2 β γ2 hd2) ∧ Kp s s2 ∧ s2 41 = s 41 ∧ RX s2 (tks β N) (up (Vw β n) b g) := by
  have hN := h.N8
  have hw := Wf_sg h hv
  obtain ⟨T2, -, hw2⟩ := Wf.years n T y _ hw hy
  obtain ⟨v, hv8, ev, -⟩ := V_way h hy h40 hv
  have e0 := c_weigh10 (s := s) (β := β) (hd := hd) (n := n) (g := g) hl (fun p hp => by have := (tks_m hp).1; omega) ht hg (tks β N) [] 200 β rfl (by omega)
  unfold m_X1_weigh
  rw [c_trial2 h.cp, cv_ok, show (0 : Int32) = nI ([] : List Nat).length from rfl, e0, swr_sg h hv]
  unfold m_X1_weigh_44
  rw [c_tgo hw (by omega) hy, cv_ok, ct_worth hw2, cl_ok, tr_o (by omega), hb.1]
  unfold up
  show ∃ s2 γ2 hd2, (if Vw β n g ≤ b.1 then _ else _) = _ ∧ _
  by_cases hc : Vw β n g ≤ b.1
  · rw [if_pos hc, if_pos hc]
    exact ⟨s, _, _, rfl, Kp.refl, rfl, hb⟩
  · rw [if_neg hc, if_neg hc, nm_ok, tr_wr (by omega), tr_o (by omega), wr_j (by decide), ht.1, tt_ok (zcp4 hl), tr_o (by omega), tr_o (by omega), nm_ok, tr_us (by omega), nc (by omega), show (0 : Int32).toNatClampNeg = 0 from by decide]
    refine ⟨_, _, _, rfl, ⟨FG.trans (FG.wr (by omega)) (FG.us (by omega)), ?_, ?_, ?_, ?_⟩, ?_, ?_, ?_⟩
    · rw [us_o (by decide), wr_j (by decide)]
    · rw [us_o (by decide), wr_f (by decide)]
    · rw [us_o (by decide), wr_f (by decide)]
    · rw [us_o (by decide), wr_f (by decide)]
    · rw [us_o (by decide), wr_f (by decide)]
    · rw [us_o (by decide), wr_at]
      rfl
    · intro _ j p hj
      have hjl := (List.getElem?_eq_some_iff.mp hj).1
      rw [us_at, wr_f (by decide)]
      unfold va_cpy
      rw [if_pos ⟨by omega, by omega⟩, show 0 + (j - 0) = j by omega]
      exact hg j p hj
theorem Ext_n {ts : List Nat} : ∀ (ps : List Nat) (f : Nat → Bool) (g g2 : Nat → Int32), Ext ps f g g2 → True := fun _ _ _ _ _ => trivial
/-- the class's going through the ways -/
theorem c_from (h : Wf T N y β) {n : Nat} (hn : n ≤ 100) (hy : y + n ≤ 5000) (h40 : ∀ p, p < N → β 8 p = 40 → β 7 p = -1) (hl : (tks β N).length ≤ 4) : ∀ (ps pre : List Nat) (m : Nat) (s γ : zw_S) (hd : Nat → Int32) (x : Int32) (f : Nat → Bool) (g : Nat → Int32) (b : Int32 × (Nat → Int32)), pre ++ ps = tks β N → ps.length < m → Tk s (tks β N) → Gn β n N (tks β N) 0 s → RX s (tks β N) b → Nd (frb β) (tks β N) f g → (∀ o, o < 8 → bt x o = f o) → (∀ o, 8 ≤ o → f o = false) → (∀ j p, pre[j]? = some p → s 41 j = g p) → ∃ s2 γ2 hd2, mf_X1_weighFrom m 1 (tr s β γ hd) (nI n) (nI pre.length) x (nI (sWN β + sm (cN β n N) N 0 + ls (c2 β n N g) pre)) = some (tr s2 β γ2 hd2) ∧ Kp s s2 ∧ (∀ j, j < pre.length → s2 41 j = s 41 j) ∧ RX s2 (tks β N) (En (Vw β n) ps f g b) := by
  intro ps
  have hN := h.N8
  have hS := S_b h (n := n)
  induction ps with
  | nil =>
    intro pre m s γ hd x f g b he hm ht hgn hb hnd hx hf8 h41
    obtain ⟨m, rfl⟩ : ∃ z, m = z + 1 := ⟨m - 1, by omega⟩
    rw [List.append_nil] at he
    subst he
    have hv : Vl (frb β) (tks β N) g := ⟨hnd.1, hnd.2.1⟩
    obtain ⟨v, hv8, ev, evb⟩ := V_way h hy h40 hv
    have e44 := hgn.1 (tks β N).length (by omega) (by omega)
    rw [List.drop_length] at e44
    have lb : ls (c2 β n N g) (tks β N) ≤ 99 * (tks β N).length := ls_b _ (fun p hp => by
      unfold c2
      split
      · omega
      · rename_i hc
        rcases hnd.1 p with e | ⟨-, o, ho, e, -⟩
        · exact absurd (by rw [e]; decide) hc
        · rw [e]
          exact gnN_b h ho)
    show ∃ s2 γ2 hd2, mb_X1_weighFrom (mf_X1_weighFrom m) 1 _ _ _ _ _ = _ ∧ _
    unfold mb_X1_weighFrom
    rw [rd_i (by omega) (by omega), tr_o (i := 44) (by omega), e44, tr_o (i := 39) (by omega), hb.1, show ls (hpb β n N) [] = 0 from rfl, nI_add, Nat.add_zero]
    by_cases hc : b.1 < nI (sWN β + sm (cN β n N) N 0 + ls (c2 β n N g) (tks β N))
    · rw [if_pos hc, ht.1, if_neg (nI_nlt (by omega) (by omega))]
      obtain ⟨s2, γ2, hd2, e1, e2, e3, e4⟩ := c_weigh (γ := γ) (hd := hd) h hn hy h40 hl ht hv h41 hb
      refine ⟨s2, γ2, hd2, by rw [e1, cv_ok], e2, fun j hj => by rw [e3], e4⟩
    · rw [if_neg hc]
      refine ⟨s, γ, hd, rfl, Kp.refl, fun _ _ => rfl, ?_⟩
      have : En (Vw β n) [] f g b = b := by
        apply En_prune
        intro g2 hg2
        rw [show g2 = g from hg2, ev]
        have q : nI v ≤ nI (sWN β + sm (cN β n N) N 0 + ls (c2 β n N g) (tks β N)) := nI_le evb (by omega)
        grind
      rw [this]
      exact hb
  | cons p ps ih =>
    intro pre m s γ hd x f g b he hm ht hgn hb hnd hx hf8 h41
    obtain ⟨m, rfl⟩ : ∃ z, m = z + 1 := ⟨m - 1, by omega⟩
    rw [List.length_cons] at hm
    have hlen : (tks β N).length = pre.length + (ps.length + 1) := by rw [← he, List.length_append, List.length_cons]
    have hat : (tks β N)[pre.length]? = some p := by rw [← he]; exact app_at
    have hpm : p ∈ tks β N := by rw [← he]; simp
    have hpN := (tks_m hpm).1
    have hnod : (pre ++ p :: ps).Nodup := by rw [he]; exact tks_nd
    have hdis : ∀ q, q ∈ pre → ¬ q ∈ p :: ps := fun q h1 h2 => (List.nodup_append.mp hnod).2.2 q h1 q h2 rfl
    have hnod2 : (p :: ps).Nodup := (List.nodup_append.mp hnod).2.1
    have hpps : ¬ p ∈ ps := (List.nodup_cons.mp hnod2).1
    have hppre : ∀ q, q ∈ pre → q ≠ p := fun q h1 e => hdis q h1 (by rw [e]; exact List.mem_cons_self)
    have lb : ls (c2 β n N g) pre ≤ 99 * pre.length := ls_b _ (fun p hp => by
      unfold c2
      split
      · omega
      · rename_i hc
        rcases hnd.1 p with e | ⟨-, o, ho, e, -⟩
        · exact absurd (by rw [e]; decide) hc
        · rw [e]
          exact gnN_b h ho)
    have hb2 : ls (hpb β n N) (p :: ps) ≤ 99 * (p :: ps).length := ls_b _ (fun _ _ => hpb_b h)
    rw [List.length_cons] at hb2
    have e44 := hgn.1 pre.length (by omega) (by omega)
    rw [show (tks β N).drop pre.length = p :: ps from by rw [← he, List.drop_left]] at e44
    have hsub : ∀ o, f o = true → frb β o = true := fun o ho => by
      by_cases h8 : o < 8
      · exact (hnd.2.2 o h8 ho).1
      · rw [hf8 o (by omega)] at ho
        exact absurd ho (by decide)
    -- what is given to the others
    have cupd : ∀ (v : Int32), ls (c2 β n N (upd g p v)) pre = ls (c2 β n N g) pre := fun v => ls_eq _ (fun q hq => by
      unfold c2
      rw [upd_o (hppre q hq)])
    show ∃ s2 γ2 hd2, mb_X1_weighFrom (mf_X1_weighFrom m) 1 _ _ _ _ _ = _ ∧ _
    unfold mb_X1_weighFrom
    rw [rd_i (by omega) (by omega), tr_o (i := 44) (by omega), e44, tr_o (i := 39) (by omega), hb.1, nI_add]
    by_cases hc : b.1 < nI (sWN β + sm (cN β n N) N 0 + ls (c2 β n N g) pre + ls (hpb β n N) (p :: ps))
    · rw [if_pos hc, ht.1, if_pos (nI_lt (by omega) (by omega)), wt_i (by omega) (by omega), tr_wr (by omega), nI_1]
      -- nobody's name
      have n41 : ∀ (v : Int32) (s : zw_S), (∀ j p, pre[j]? = some p → s 41 j = g p) → ∀ j q, (pre ++ [p])[j]? = some q → zw_wr s 41 pre.length v 41 j = upd g p v q := fun v s h41 j q hj => by
        by_cases hjl : j < pre.length
        · rw [List.getElem?_append_left hjl] at hj
          rw [wr_j (by omega), h41 j q hj, upd_o (hppre q (List.mem_of_getElem? hj))]
        · rw [List.getElem?_append_right (by omega)] at hj
          have hj0 : j = pre.length := by
            have := (List.getElem?_eq_some_iff.mp hj).1
            simp at this
            omega
          subst hj0
          rw [Nat.sub_self] at hj
          have : p = q := by simpa using hj
          subst this
          rw [wr_at, upd_at]
      have hpre1 : (pre ++ [p]).length = pre.length + 1 := by rw [List.length_append]; rfl
      have a1 : sWN β + sm (cN β n N) N 0 + ls (c2 β n N (upd g p (-1))) (pre ++ [p]) = sWN β + sm (cN β n N) N 0 + ls (c2 β n N g) pre := by
        rw [ls_app, cupd]
        unfold ls c2
        rw [upd_at, if_pos (by decide)]
        rfl
      obtain ⟨s1, γ1, hd1, e1, e2, e3, e4⟩ := ih (pre ++ [p]) m (zw_wr s 41 pre.length (-1)) γ hd x f (upd g p (-1)) b (by rw [List.append_assoc]; exact he) (by omega) (Kp.w41.tk ht) (Kp.w41.gn hgn) ⟨by rw [wr_f (by decide)]; exact hb.1, fun hn1 j q hj => by rw [wr_f (by decide)]; exact hb.2 hn1 j q hj⟩ hnd.m1 hx hf8 (n41 (-1) s h41)
      rw [a1, hpre1] at e1
      rw [e1, cv_ok]
      rw [hpre1] at e3
      -- each free name
      have run : ∀ (q m2 o : Nat) (s γ : zw_S) (hd : Nat → Int32) (b : Int32 × (Nat → Int32)), o + q = 8 → q < m2 → Tk s (tks β N) → Gn β n N (tks β N) 0 s → RX s (tks β N) b → (∀ j p, pre[j]? = some p → s 41 j = g p) → ∃ s2 γ2 hd2, m_X1_weighFrom_55 (mf_X1_weighFrom m) 1 m2 (tr s β γ hd) (nI n) (nI pre.length) x (nI (sWN β + sm (cN β n N) N 0 + ls (c2 β n N g) pre)) (nI o) = some (tr s2 β γ2 hd2) ∧ Kp s s2 ∧ (∀ j, j < pre.length → s2 41 j = s 41 j) ∧ RX s2 (tks β N) ((List.range' o q).foldl (fun s o => if f o = true then En (Vw β n) ps (fm f o) (upd g p (nI o)) s else s) b) := by
        intro q
        induction q with
        | zero =>
          intro m2 o s γ hd b ho hm2 ht hgn hb h41
          obtain ⟨m2, rfl⟩ : ∃ z, m2 = z + 1 := ⟨m2 - 1, by omega⟩
          refine ⟨s, γ, hd, ?_, Kp.refl, fun _ _ => rfl, hb⟩
          unfold m_X1_weighFrom_55
          rw [show (8 : Int32) = nI 8 from rfl, if_pos (nI_le (by omega) (by omega))]
        | succ q ihq =>
          intro m2 o s γ hd b ho hm2 ht hgn hb h41
          obtain ⟨m2, rfl⟩ : ∃ z, m2 = z + 1 := ⟨m2 - 1, by omega⟩
          have eb := b_is (x := x) (show o < 32 by omega)
          rw [hx o (by omega)] at eb
          unfold m_X1_weighFrom_55
          rw [show (8 : Int32) = nI 8 from rfl, if_neg (nI_ge (by omega) (by omega)), List.range'_succ, List.foldl_cons]
          by_cases hfo : f o = true
          · rw [if_pos (eb.mpr hfo), if_pos hfo, wt_i (by omega) (by omega), tr_wr (by omega), pk_mul, nI_add, rd_i (by omega) (by omega), tr_o (by omega), wr_f (by decide), hgn.2 pre.length p o (by omega) hat (by omega), show gnb β n N p o = gnN β n N p (nI o) from if_pos (hsub o hfo), nI_1, nI_add]
            have a2 : sWN β + sm (cN β n N) N 0 + ls (c2 β n N (upd g p (nI o))) (pre ++ [p]) = sWN β + sm (cN β n N) N 0 + ls (c2 β n N g) pre + gnN β n N p (nI o) := by
              rw [ls_app, cupd]
              unfold ls c2
              rw [upd_at, if_neg (nI_pos (by omega))]
              unfold ls
              omega
            have hx2 : ∀ z, z < 8 → bt (x &&& ((1 <<< (nI o &&& 31)) ^^^ (-1))) z = fm f o z := fun z hz => by
              rw [b_and, b_not (by omega), b_one (by omega) (by omega), hx z hz]
              rfl
            have hf82 : ∀ z, 8 ≤ z → fm f o z = false := fun z hz => by
              unfold fm
              rw [hf8 z hz]
              rfl
            obtain ⟨s2, γ2, hd2, f1, f2, f3, f4⟩ := ih (pre ++ [p]) m (zw_wr s 41 pre.length (nI o)) γ hd (x &&& ((1 <<< (nI o &&& 31)) ^^^ (-1))) (fm f o) (upd g p (nI o)) b (by rw [List.append_assoc]; exact he) (by omega) (Kp.w41.tk ht) (Kp.w41.gn hgn) ⟨by rw [wr_f (by decide)]; exact hb.1, fun hn1 j q hj => by rw [wr_f (by decide)]; exact hb.2 hn1 j q hj⟩ (hnd.up hpm (by omega) hfo) hx2 hf82 (n41 (nI o) s h41)
            rw [a2, hpre1] at f1
            rw [f1, cv_ok, nm_ok, nI_1]
            rw [hpre1] at f3
            have k2 := Kp.trans (Kp.w41 (s := s) (j := pre.length) (v := nI o)) f2
            have p41 : ∀ j, j < pre.length → s2 41 j = s 41 j := fun j hj => by rw [f3 j (by omega), wr_j (by omega)]
            obtain ⟨s3, γ3, hd3, g1, g2, g3, g4⟩ := ihq m2 (o + 1) s2 γ2 hd2 _ (by omega) (by omega) (k2.tk ht) (k2.gn hgn) f4 (fun j r hj => by rw [p41 j (List.getElem?_eq_some_iff.mp hj).1]; exact h41 j r hj)
            exact ⟨s3, γ3, hd3, g1, Kp.trans k2 g2, fun j hj => by rw [g3 j hj, p41 j hj], g4⟩
          · rw [if_neg (fun z => hfo (eb.mp z)), if_neg hfo, nm_ok, nI_1]
            exact ihq m2 (o + 1) s γ hd b (by omega) (by omega) ht hgn hb h41
      have k1 := Kp.trans (Kp.w41 (s := s) (j := pre.length) (v := -1)) e2
      have p41 : ∀ j, j < pre.length → s1 41 j = s 41 j := fun j hj => by rw [e3 j (by omega), wr_j (by omega)]
      obtain ⟨s3, γ3, hd3, g1, g2, g3, g4⟩ := run 8 200 0 s1 γ1 hd1 _ (by omega) (by omega) (k1.tk ht) (k1.gn hgn) e4 (fun j r hj => by rw [p41 j (List.getElem?_eq_some_iff.mp hj).1]; exact h41 j r hj)
      exact ⟨s3, γ3, hd3, g1, Kp.trans k1 g2, fun j hj => by rw [g3 j hj, p41 j hj], g4⟩
    · rw [if_neg hc]
      refine ⟨s, γ, hd, rfl, Kp.refl, fun _ _ => rfl, ?_⟩
      have : En (Vw β n) (p :: ps) f g b = b := by
        apply En_prune
        intro g2 hg2
        have hv := Ext_V (p :: ps) f g g2 (fun q hq => by rw [← he]; exact List.mem_append_right _ hq) hnd hg2
        obtain ⟨v, hv8, ev, evb⟩ := V_way h hy h40 hv
        have q1 : ls (c2 β n N g2) (tks β N) = ls (c2 β n N g) pre + ls (c2 β n N g2) (p :: ps) := by
          rw [← he, ls_app]
          congr 1
          apply ls_eq
          intro q hq
          unfold c2
          rw [Ext_o _ _ _ _ hg2 q (hdis q hq)]
        have q2 : ls (c2 β n N g2) (p :: ps) ≤ ls (hpb β n N) (p :: ps) := Ext_h (gn := fun p x => gnN β n N p x) (hp := hpb β n N) (fr := frb β) (fun p o ho hfo => by
          have := hmx_g (g := gnb β n N p) (o := o) 8 0 0 (by omega) (by omega)
          rw [show gnb β n N p o = gnN β n N p (nI o) from if_pos hfo] at this
          exact this) (p :: ps) f g g2 hnod2 hsub hg2
        rw [ev]
        have q3 : nI v ≤ nI (sWN β + sm (cN β n N) N 0 + ls (c2 β n N g) pre + ls (hpb β n N) (p :: ps)) := nI_le (by omega) (by omega)
        grind
      rw [this]
      exact hb
end W2
