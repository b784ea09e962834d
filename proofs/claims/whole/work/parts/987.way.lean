/-! a way to give names, and the worth that is ended by it -/
section W1
variable {σ s β γ : zw_S} {T N y k : Nat} {hd : Nat → Int32} {g : Nat → Int32}
def sg (β : zw_S) (g : Nat → Int32) : zw_S := fun f => if f = 7 then (fun j => if g j < 0 then β 7 j else g j) else β f
theorem sg_f {f : Nat} (h : f ≠ 7) : sg β g f = β f := if_neg h
theorem sg_7 {j : Nat} : sg β g 7 j = if g j < 0 then β 7 j else g j := by
  unfold sg
  rw [if_pos rfl]
theorem frb_free (h : Wf T N y β) {o q : Nat} (hf : frb β o = true) (hq : q < N) : β 7 q ≠ nI o := by
  have hN := h.N8
  unfold frb at hf
  simp only [Bool.and_eq_true, decide_eq_true_eq] at hf
  rcases sbear_cc h (nI o) with ⟨-, z⟩ | ⟨r, hr, -, z2⟩
  · exact z q hq
  · rw [z2] at hf
    exact absurd hf.2 (nI_pos (by omega))
theorem Wf_sg (h : Wf T N y β) (hv : Vl (frb β) (tks β N) g) : Wf T N y (sg β g) := by
  have hN := h.N8
  have h7 : ∀ p, p < N → (sg β g 7 p = β 7 p ∨ ∃ o, o < 8 ∧ sg β g 7 p = nI o ∧ g p = nI o ∧ frb β o = true) := fun p hp => by
    rw [sg_7]
    rcases hv.1 p with e | ⟨-, o, ho, e, hf⟩
    · rw [e, if_pos (by decide)]
      exact Or.inl rfl
    · right
      refine ⟨o, ho, ?_, e, hf⟩
      rw [e, if_neg (nI_pos (by omega))]
  refine ⟨h.1, h.2.1, h.2.2.1, ?_, ?_, ?_, ?_, ?_, ?_, ?_, ?_, ?_⟩
  · rw [sg_f (by decide)]; exact h.eT
  · rw [sg_f (by decide)]; exact h.eN
  · rw [sg_f (by decide)]; exact h.eY
  · intro i hi
    rw [sg_f (by decide)]
    exact h.worth hi
  · intro t ht
    rw [sg_f (by decide), sg_f (by decide), sg_f (by decide), sg_f (by decide)]
    exact h.2.2.2.2.2.2.2.1 t ht
  · intro p hp
    rw [sg_f (show (8 : Nat) ≠ 7 by decide), sg_f (show (9 : Nat) ≠ 7 by decide), sg_f (show (10 : Nat) ≠ 7 by decide)]
    refine ⟨?_, h.age hp, h.hnd hp, h.help hp⟩
    rcases h7 p hp with e | ⟨o, ho, e, -, -⟩
    · rw [e]
      exact h.name hp
    · exact Or.inr ⟨o, ho, e⟩
  · intro p q hp hq e n
    rcases h7 p hp with ep | ⟨o, ho, ep, gp, fp⟩
    · rcases h7 q hq with eq | ⟨o2, ho2, eq, gq, fq⟩
      · rw [ep, eq] at e
        rw [ep] at n
        exact h.inj hp hq e n
      · rw [ep, eq] at e
        exact absurd e (frb_free h fq hp)
    · rcases h7 q hq with eq | ⟨o2, ho2, eq, gq, fq⟩
      · rw [ep, eq] at e
        exact absurd e.symm (frb_free h fp hq)
      · rw [ep, eq] at e
        refine hv.2 p q (by rw [gp, gq, e]) ?_
        rw [gp]
        exact ne_m1 (by omega)
  · intro i hi
    rw [sg_f (by decide)]
    exact h.spot hi
  · intro f j hj
    by_cases hf : f = 7
    · subst hf
      rw [sg_7]
      have h8 : 8 ≤ j := hj
      rcases hv.1 j with e | ⟨hm, -⟩
      · rw [e, if_pos (by decide)]
        exact h.cp 7 j hj
      · have := (tks_m hm).1
        omega
    · rw [sg_f hf]
      exact h.cp f j hj
theorem sg_40 (h : Wf T N y β) (hv : Vl (frb β) (tks β N) g) (h40 : ∀ p, p < N → β 8 p = 40 → β 7 p = -1) : ∀ p, p < N → sg β g 8 p = 40 → sg β g 7 p = -1 := by
  intro p hp h8
  rw [sg_f (by decide)] at h8
  rw [sg_7]
  rcases hv.1 p with e | ⟨hm, -⟩
  · rw [e, if_pos (by decide)]
    exact h40 p hp h8
  · have := (tks_m hm).2.2
    rw [h8] at this
    exact absurd this (by decide)
theorem sg_gn {n p : Nat} {x : Int32} : gnN (sg β g) n N p x = gnN β n N p x := by
  unfold gnN Hh Ll mP mQ gN se tn
  simp only [sg_f (β := β) (g := g) (show (0 : Nat) ≠ 7 by decide), sg_f (β := β) (g := g) (show (1 : Nat) ≠ 7 by decide), sg_f (β := β) (g := g) (show (3 : Nat) ≠ 7 by decide), sg_f (β := β) (g := g) (show (4 : Nat) ≠ 7 by decide), sg_f (β := β) (g := g) (show (5 : Nat) ≠ 7 by decide), sg_f (β := β) (g := g) (show (8 : Nat) ≠ 7 by decide), sg_f (β := β) (g := g) (show (9 : Nat) ≠ 7 by decide), sg_f (β := β) (g := g) (show (10 : Nat) ≠ 7 by decide)]
theorem sg_open {x : Int32} : sopen (sg β g) x = sopen β x := by
  unfold sopen se tn
  simp only [sg_f (β := β) (g := g) (show (0 : Nat) ≠ 7 by decide), sg_f (β := β) (g := g) (show (4 : Nat) ≠ 7 by decide), sg_f (β := β) (g := g) (show (5 : Nat) ≠ 7 by decide)]
theorem sg_W : sWN (sg β g) = sWN β := by
  unfold sWN gWN
  simp only [sg_open]
  unfold sowns tn
  simp only [sg_f (β := β) (g := g) (show (0 : Nat) ≠ 7 by decide), sg_f (β := β) (g := g) (show (1 : Nat) ≠ 7 by decide), sg_f (β := β) (g := g) (show (4 : Nat) ≠ 7 by decide)]
/-- what one who was given a name could gain -/
def c2 (β : zw_S) (n N : Nat) (g : Nat → Int32) (p : Nat) : Nat := if g p < 0 then 0 else gnN β n N p (g p)
theorem sg_c {n p : Nat} : cN (sg β g) n N p ≤ cN β n N p + c2 β n N g p := by
  unfold cN c2
  rw [sg_open, sg_7, sg_gn]
  by_cases hg : g p < 0
  · rw [if_pos hg, if_pos hg]
    omega
  · rw [if_neg hg, if_neg hg]
    split <;> omega
theorem ls_sm {c : Nat → Nat} {f : Nat → Bool} : ∀ (q i : Nat), (∀ p, i ≤ p → p < i + q → ¬ f p = true → c p = 0) → ls c ((List.range' i q).filter f) = sm c q i := by
  intro q
  induction q with
  | zero => intro i h; rfl
  | succ q ih =>
    intro i h
    rw [List.range'_succ, List.filter_cons, show sm c (q + 1) i = c i + sm c q (i + 1) from rfl, ← ih (i + 1) (fun p a b => h p (by omega) (by omega))]
    by_cases hf : f i = true
    · rw [if_pos hf]
      rfl
    · rw [if_neg hf, h i (by omega) (by omega) hf, Nat.zero_add]
theorem Vl_fp (hN : N ≤ 8) (hv : Vl (frb β) (tks β N) g) {p : Nat} (hf : ¬ fpb β N p = true) : g p = -1 := by
  rcases hv.1 p with e | ⟨hm, -⟩
  · exact e
  · unfold tks at hm
    exact absurd (List.mem_filter.mp hm).2 hf
def Vw (β : zw_S) (n : Nat) (g : Nat → Int32) : Int32 := sworth (syears n (sg β g))
theorem V_way (h : Wf T N y β) {n : Nat} (hy : y + n ≤ 5000) (h40 : ∀ p, p < N → β 8 p = 40 → β 7 p = -1) (hv : Vl (frb β) (tks β N) g) : ∃ v, v ≤ 792 ∧ Vw β n g = nI v ∧ v ≤ sWN β + sm (cN β n N) N 0 + ls (c2 β n N g) (tks β N) := by
  have hN := h.N8
  have hw := Wf_sg h hv
  obtain ⟨T2, -, hw2⟩ := Wf.years n T y _ hw hy
  refine ⟨sWN (syears n (sg β g)), sWN_b hw2, sworth_n hw2, ?_⟩
  have b := V_bound hw hy (sg_40 h hv h40)
  rw [sg_W] at b
  have b2 : sm (cN (sg β g) n N) N 0 ≤ sm (fun p => cN β n N p + c2 β n N g p) N 0 := sm_le N 0 (fun p _ _ => sg_c)
  rw [sm_add] at b2
  have e : ls (c2 β n N g) (tks β N) = sm (c2 β n N g) N 0 := by
    unfold tks
    apply ls_sm
    intro p _ _ hf
    unfold c2
    rw [Vl_fp hN hv hf, if_pos (by decide)]
  omega
theorem c_N {n : Nat} (h : Wf T N y β) {p : Nat} (hp : p < N) : cN β n N p ≤ 99 := by
  unfold cN
  split
  · rename_i hc
    rcases h.name hp with e | ⟨o, ho, e⟩
    · exact absurd (by rw [e]; decide) hc.1
    · rw [e]
      exact gnN_b h ho
  · omega
theorem S_b (h : Wf T N y β) {n : Nat} : sWN β + sm (cN β n N) N 0 ≤ 1584 := by
  have hN := h.N8
  have h1 := sWN_b h
  have h2 : sm (cN β n N) N 0 ≤ sm (fun _ => 99) N 0 := sm_le N 0 (fun p _ hp => c_N h (by omega))
  have e : ∀ N, N ≤ 8 → sm (fun _ => 99) N 0 ≤ 792 := by decide
  have := e N hN
  omega
theorem ls_b {c : Nat → Nat} {B : Nat} : ∀ (l : List Nat), (∀ p, p ∈ l → c p ≤ B) → ls c l ≤ B * l.length := by
  intro l
  induction l with
  | nil => intro h; exact Nat.le_refl _
  | cons p l ih =>
    intro h
    have := ih (fun q hq => h q (List.mem_cons_of_mem _ hq))
    have := h p List.mem_cons_self
    unfold ls
    rw [List.length_cons, Nat.mul_add, Nat.mul_one]
    omega
theorem hpb_b (h : Wf T N y β) {n p : Nat} : hpb β n N p ≤ 99 := by
  unfold hpb
  have e : hmx (gnb β n N p) 0 0 8 = hmx (fun o => if o < 8 then gnb β n N p o else 0) 0 0 8 := by
    unfold hmx
    exact fold_c 8 0 0 (fun a o _ ho => by show max a (gnb β n N p o) = max a (if o < 8 then gnb β n N p o else 0); rw [if_pos (show o < 8 by omega)])
  rw [e]
  apply hmx_b
  · intro o
    by_cases ho : o < 8
    · rw [if_pos ho]
      unfold gnb
      split
      · exact gnN_b h ho
      · omega
    · rw [if_neg ho]
      omega
  · omega
/-! names written one by one -/
def swr (γ : zw_S) (g : Nat → Int32) (l : List Nat) : zw_S := l.foldl (fun b p => zw_wr b 7 p (g p)) γ
theorem swr_ap {f j : Nat} : ∀ (l : List Nat) (γ : zw_S), swr γ g l f j = if f = 7 ∧ j ∈ l then g j else γ f j := by
  intro l
  induction l with
  | nil => intro γ; simp [swr]
  | cons p l ih =>
    intro γ
    show swr (zw_wr γ 7 p (g p)) g l f j = _
    rw [ih, wr_ap]
    by_cases hf : f = 7
    · by_cases hj : j ∈ l
      · rw [if_pos ⟨hf, hj⟩, if_pos ⟨hf, List.mem_cons_of_mem _ hj⟩]
      · rw [if_neg (fun z => hj z.2)]
        by_cases hp : j = p
        · subst hp
          rw [if_pos ⟨hf, rfl⟩, if_pos ⟨hf, List.mem_cons_self⟩]
        · rw [if_neg (fun z => hp z.2), if_neg]
          rintro ⟨-, z⟩
          rcases List.mem_cons.mp z with z | z
          · exact hp z
          · exact hj z
    · rw [if_neg (fun z => hf z.1), if_neg (fun z => hf z.1), if_neg (fun z => hf z.1)]
theorem swr_sg (h : Wf T N y β) (hv : Vl (frb β) (tks β N) g) : swr β g (tks β N) = sg β g := by
  have hN := h.N8
  funext f j
  rw [swr_ap]
  by_cases hf : f = 7
  · subst hf
    rw [sg_7]
    by_cases hj : j ∈ tks β N
    · rw [if_pos ⟨rfl, hj⟩]
      rcases hv.1 j with e | ⟨-, o, ho, e, -⟩
      · rw [e, if_pos (by decide)]
        obtain ⟨m1, m2, -⟩ := tks_m hj
        rcases h.name m1 with e2 | ⟨z, hz, e2⟩
        · exact e2.symm
        · rw [e2] at m2
          exact absurd m2 (nI_pos (by omega))
      · rw [e, if_neg (nI_pos (by omega))]
    · rw [if_neg (fun z => hj z.2)]
      rcases hv.1 j with e | ⟨hm, -⟩
      · rw [e, if_pos (by decide)]
      · exact absurd hm hj
  · rw [if_neg (fun z => hf z.1), sg_f hf]
end W1
