/-! ways to give names, in their order -/
def up (V : (Nat → Int32) → Int32) (s : Int32 × (Nat → Int32)) (g : Nat → Int32) : Int32 × (Nat → Int32) := if V g ≤ s.1 then s else (V g, g)
def fm (f : Nat → Bool) (o : Nat) : Nat → Bool := fun x => f x && !decide (x = o)
/-- all ways in which those in the list get free names -/
def En (V : (Nat → Int32) → Int32) : List Nat → (Nat → Bool) → (Nat → Int32) → (Int32 × (Nat → Int32)) → (Int32 × (Nat → Int32))
  | [], _, g, s => up V s g
  | p :: ps, f, g, s => (List.range' 0 8).foldl (fun s o => if f o = true then En V ps (fm f o) (upd g p (nI o)) s else s) (En V ps f (upd g p (-1)) s)
/-- a way that comes out of what is given so far -/
def Ext : List Nat → (Nat → Bool) → (Nat → Int32) → (Nat → Int32) → Prop
  | [], _, g, g2 => g2 = g
  | p :: ps, f, g, g2 => Ext ps f (upd g p (-1)) g2 ∨ ∃ o, o < 8 ∧ f o = true ∧ Ext ps (fm f o) (upd g p (nI o)) g2
theorem fold_c {S : Type} {F G : S → Nat → S} : ∀ (q i : Nat) (s : S), (∀ s o, i ≤ o → o < i + q → F s o = G s o) → (List.range' i q).foldl F s = (List.range' i q).foldl G s := by
  intro q
  induction q with
  | zero => intro i s h; rfl
  | succ q ih =>
    intro i s h
    rw [List.range'_succ, List.foldl_cons, List.foldl_cons, h s i (by omega) (by omega)]
    exact ih (i + 1) _ (fun s o a b => h s o (by omega) (by omega))
theorem fold_i {S : Type} {F : S → Nat → S} : ∀ (q i : Nat) (s : S), (∀ o, i ≤ o → o < i + q → F s o = s) → (List.range' i q).foldl F s = s := by
  intro q
  induction q with
  | zero => intro i s h; rfl
  | succ q ih =>
    intro i s h
    rw [List.range'_succ, List.foldl_cons, h i (by omega) (by omega)]
    exact ih (i + 1) s (fun o a b => h o (by omega) (by omega))
theorem fold_P {S : Type} {F : S → Nat → S} {P : S → Prop} : ∀ (q i : Nat) (s : S), P s → (∀ s o, i ≤ o → o < i + q → P s → P (F s o)) → P ((List.range' i q).foldl F s) := by
  intro q
  induction q with
  | zero => intro i s hs h; exact hs
  | succ q ih =>
    intro i s hs h
    rw [List.range'_succ, List.foldl_cons]
    exact ih (i + 1) _ (h s i (by omega) (by omega) hs) (fun s o a b => h s o (by omega) (by omega))
section EN
variable {V : (Nat → Int32) → Int32}
theorem En_prune : ∀ (ps : List Nat) (f : Nat → Bool) (g : Nat → Int32) (s : Int32 × (Nat → Int32)), (∀ g2, Ext ps f g g2 → V g2 ≤ s.1) → En V ps f g s = s := by
  intro ps
  induction ps with
  | nil =>
    intro f g s h
    unfold En up
    rw [if_pos (h g rfl)]
  | cons p ps ih =>
    intro f g s h
    unfold En
    rw [ih f (upd g p (-1)) s (fun g2 q => h g2 (Or.inl q))]
    apply fold_i
    intro o _ ho
    by_cases hf : f o = true
    · rw [if_pos hf]
      exact ih (fm f o) (upd g p (nI o)) s (fun g2 q => h g2 (Or.inr ⟨o, by omega, hf, q⟩))
    · rw [if_neg hf]
theorem En_ge : ∀ (ps : List Nat) (f : Nat → Bool) (g : Nat → Int32) (s : Int32 × (Nat → Int32)), s.1 ≤ (En V ps f g s).1 := by
  intro ps
  induction ps with
  | nil =>
    intro f g s
    unfold En up
    split
    · grind
    · rename_i h
      show s.1 ≤ V g
      grind
  | cons p ps ih =>
    intro f g s
    unfold En
    refine fold_P (P := fun (z : Int32 × (Nat → Int32)) => s.1 ≤ z.1) 8 0 _ (ih _ _ _) (fun z o _ _ hz => ?_)
    show s.1 ≤ (if f o = true then _ else z).1
    by_cases hf : f o = true
    · rw [if_pos hf]
      have := ih (fm f o) (upd g p (nI o)) z
      grind
    · rw [if_neg hf]
      exact hz
theorem En_leaf : ∀ (ps : List Nat) (f : Nat → Bool) (g : Nat → Int32) (s : Int32 × (Nat → Int32)), ∃ g2, Ext ps f g g2 ∧ V g2 ≤ (En V ps f g s).1 := by
  intro ps
  induction ps with
  | nil =>
    intro f g s
    refine ⟨g, rfl, ?_⟩
    unfold En up
    split
    · assumption
    · show V g ≤ V g
      grind
  | cons p ps ih =>
    intro f g s
    obtain ⟨g2, q1, q2⟩ := ih f (upd g p (-1)) s
    refine ⟨g2, Or.inl q1, ?_⟩
    unfold En
    refine fold_P (P := fun (z : Int32 × (Nat → Int32)) => V g2 ≤ z.1) 8 0 _ q2 (fun z o _ _ hz => ?_)
    show V g2 ≤ (if f o = true then _ else z).1
    by_cases hf : f o = true
    · rw [if_pos hf]
      have := En_ge (V := V) ps (fm f o) (upd g p (nI o)) z
      grind
    · rw [if_neg hf]
      exact hz
theorem En_P {P : Int32 × (Nat → Int32) → Prop} : ∀ (ps : List Nat) (f : Nat → Bool) (g : Nat → Int32) (s : Int32 × (Nat → Int32)), P s → (∀ g2, Ext ps f g g2 → P (V g2, g2)) → P (En V ps f g s) := by
  intro ps
  induction ps with
  | nil =>
    intro f g s hs h
    unfold En up
    split
    · exact hs
    · exact h g rfl
  | cons p ps ih =>
    intro f g s hs h
    unfold En
    refine fold_P (P := P) 8 0 _ (ih _ _ _ hs (fun g2 q => h g2 (Or.inl q))) (fun z o _ ho hz => ?_)
    by_cases hf : f o = true
    · rw [if_pos hf]
      exact ih _ _ _ hz (fun g2 q => h g2 (Or.inr ⟨o, by omega, hf, q⟩))
    · rw [if_neg hf]
      exact hz
/-! what holds while names are given -/
def Nd (fr : Nat → Bool) (ts : List Nat) (f : Nat → Bool) (g : Nat → Int32) : Prop := (∀ p, g p = -1 ∨ (p ∈ ts ∧ ∃ o, o < 8 ∧ g p = nI o ∧ fr o = true)) ∧ (∀ p q, g p = g q → g p ≠ -1 → p = q) ∧ (∀ o, o < 8 → f o = true → fr o = true ∧ ∀ p, g p ≠ nI o)
theorem upd_at {g : Nat → Int32} {p : Nat} {v : Int32} : upd g p v p = v := by simp [upd]
theorem upd_o {g : Nat → Int32} {p q : Nat} {v : Int32} (h : q ≠ p) : upd g p v q = g q := by simp [upd, h]
theorem Nd.m1 {fr f : Nat → Bool} {ts : List Nat} {g : Nat → Int32} {p : Nat} (h : Nd fr ts f g) : Nd fr ts f (upd g p (-1)) := by
  obtain ⟨h1, h2, h3⟩ := h
  refine ⟨fun q => ?_, fun a c e n => ?_, fun o ho hf => ⟨(h3 o ho hf).1, fun q => ?_⟩⟩
  · by_cases hq : q = p
    · subst hq
      exact Or.inl upd_at
    · rw [upd_o hq]
      exact h1 q
  · by_cases ha : a = p
    · subst ha
      rw [upd_at] at n
      exact absurd rfl n
    · by_cases hc : c = p
      · subst hc
        rw [upd_at] at e
        exact absurd e n
      · rw [upd_o ha, upd_o hc] at e
        rw [upd_o ha] at n
        exact h2 a c e n
  · by_cases hq : q = p
    · subst hq
      rw [upd_at]
      exact (ne_m1 (by omega)).symm
    · rw [upd_o hq]
      exact (h3 o ho hf).2 q
theorem Nd.up {fr f : Nat → Bool} {ts : List Nat} {g : Nat → Int32} {p o : Nat} (h : Nd fr ts f g) (hp : p ∈ ts) (ho : o < 8) (hf : f o = true) : Nd fr ts (fm f o) (upd g p (nI o)) := by
  obtain ⟨h1, h2, h3⟩ := h
  refine ⟨fun q => ?_, fun a c e n => ?_, fun x hx hfx => ?_⟩
  · by_cases hq : q = p
    · subst hq
      exact Or.inr ⟨hp, o, ho, upd_at, (h3 o ho hf).1⟩
    · rw [upd_o hq]
      exact h1 q
  · by_cases ha : a = p
    · by_cases hc : c = p
      · rw [ha, hc]
      · subst ha
        rw [upd_at, upd_o hc] at e
        exact absurd e.symm ((h3 o ho hf).2 c)
    · by_cases hc : c = p
      · subst hc
        rw [upd_at, upd_o ha] at e
        exact absurd e ((h3 o ho hf).2 a)
      · rw [upd_o ha, upd_o hc] at e
        rw [upd_o ha] at n
        exact h2 a c e n
  · unfold fm at hfx
    simp only [Bool.and_eq_true, Bool.not_eq_true', decide_eq_false_iff_not] at hfx
    refine ⟨(h3 x hx hfx.1).1, fun q => ?_⟩
    by_cases hq : q = p
    · subst hq
      rw [upd_at]
      intro z
      rw [nI_eq (by omega) (by omega)] at z
      exact hfx.2 z.symm
    · rw [upd_o hq]
      exact (h3 x hx hfx.1).2 q
/-- a way in which nobody gets what isn't free, nor what another got -/
def Vl (fr : Nat → Bool) (ts : List Nat) (g : Nat → Int32) : Prop := (∀ p, g p = -1 ∨ (p ∈ ts ∧ ∃ o, o < 8 ∧ g p = nI o ∧ fr o = true)) ∧ (∀ p q, g p = g q → g p ≠ -1 → p = q)
theorem Ext_V {fr : Nat → Bool} {ts : List Nat} : ∀ (ps : List Nat) (f : Nat → Bool) (g g2 : Nat → Int32), (∀ p, p ∈ ps → p ∈ ts) → Nd fr ts f g → Ext ps f g g2 → Vl fr ts g2 := by
  intro ps
  induction ps with
  | nil =>
    intro f g g2 hm hn he
    rw [show g2 = g from he]
    exact ⟨hn.1, hn.2.1⟩
  | cons p ps ih =>
    intro f g g2 hm hn he
    rcases he with he | ⟨o, ho, hf, he⟩
    · exact ih f _ g2 (fun q hq => hm q (List.mem_cons_of_mem _ hq)) hn.m1 he
    · exact ih _ _ g2 (fun q hq => hm q (List.mem_cons_of_mem _ hq)) (hn.up (hm p List.mem_cons_self) ho hf) he
theorem Ext_o : ∀ (ps : List Nat) (f : Nat → Bool) (g g2 : Nat → Int32), Ext ps f g g2 → ∀ q, ¬ q ∈ ps → g2 q = g q := by
  intro ps
  induction ps with
  | nil => intro f g g2 he q hq; rw [show g2 = g from he]
  | cons p ps ih =>
    intro f g g2 he q hq
    have hqp : q ≠ p := fun z => hq (by rw [z]; exact List.mem_cons_self)
    have hqs : ¬ q ∈ ps := fun z => hq (List.mem_cons_of_mem _ z)
    rcases he with he | ⟨o, ho, hf, he⟩
    · rw [ih f _ g2 he q hqs, upd_o hqp]
    · rw [ih _ _ g2 he q hqs, upd_o hqp]
def ls (c : Nat → Nat) : List Nat → Nat
  | [] => 0
  | p :: ps => c p + ls c ps
/-- what is given to those in the list is no more than what they hope for -/
theorem Ext_h {gn : Nat → Int32 → Nat} {hp : Nat → Nat} {fr : Nat → Bool} (hg : ∀ p o, o < 8 → fr o = true → gn p (nI o) ≤ hp p) : ∀ (ps : List Nat) (f : Nat → Bool) (g g2 : Nat → Int32), ps.Nodup → (∀ o, f o = true → fr o = true) → Ext ps f g g2 → ls (fun p => if g2 p < 0 then 0 else gn p (g2 p)) ps ≤ ls hp ps := by
  intro ps
  induction ps with
  | nil => intro f g g2 hn hf he; exact Nat.le_refl _
  | cons p ps ih =>
    intro f g g2 hn hf he
    have hps : ¬ p ∈ ps := (List.nodup_cons.mp hn).1
    have hn2 := (List.nodup_cons.mp hn).2
    rcases he with he | ⟨o, ho, hfo, he⟩
    · have e := Ext_o ps _ _ g2 he p hps
      rw [upd_at] at e
      have q := ih f _ g2 hn2 hf he
      unfold ls
      rw [e, if_pos (by decide)]
      omega
    · have e := Ext_o ps _ _ g2 he p hps
      rw [upd_at] at e
      have q := ih _ _ g2 hn2 (fun x hx => hf x (by unfold fm at hx; simp only [Bool.and_eq_true] at hx; exact hx.1)) he
      have q2 := hg p o ho (hf o hfo)
      unfold ls
      rw [e, if_neg (nI_pos (by omega))]
      omega
theorem ls_app {c : Nat → Nat} : ∀ (a b : List Nat), ls c (a ++ b) = ls c a + ls c b := by
  intro a
  induction a with
  | nil => intro b; unfold ls; simp
  | cons p a ih =>
    intro b
    rw [List.cons_append]
    show c p + ls c (a ++ b) = c p + ls c a + ls c b
    rw [ih]
    omega
theorem ls_eq {c d : Nat → Nat} : ∀ (a : List Nat), (∀ p, p ∈ a → c p = d p) → ls c a = ls d a := by
  intro a
  induction a with
  | nil => intro h; rfl
  | cons p a ih =>
    intro h
    unfold ls
    rw [h p List.mem_cons_self, ih (fun q hq => h q (List.mem_cons_of_mem _ hq))]
/-! the reference's counting -/
def vd (fr : Nat → Bool) (g : Nat → Int32) : Prop := (∀ p, p < 8 → ¬ g p < 0 → fr (g p).toNatClampNeg = true) ∧ (∀ p q, p < 8 → q < 8 → ¬ g p < 0 → g p = g q → p = q)
noncomputable def stp (V : (Nat → Int32) → Int32) (fr : Nat → Bool) (g : Nat → Int32) (s : Int32 × (Nat → Int32)) : Int32 × (Nat → Int32) := @ite _ (vd fr g) (Classical.propDecidable _) (up V s g) s
noncomputable def Rr (V : (Nat → Int32) → Int32) (fr : Nat → Bool) : List Nat → (Nat → Int32) → (Int32 × (Nat → Int32)) → (Int32 × (Nat → Int32))
  | [], g, s => stp V fr g s
  | p :: ps, g, s => (List.range' 0 8).foldl (fun s o => Rr V fr ps (upd g p (nI o)) s) (Rr V fr ps (upd g p (-1)) s)
theorem Rr_bad {fr : Nat → Bool} : ∀ (ps : List Nat) (g : Nat → Int32) (s : Int32 × (Nat → Int32)), (∃ q, q < 8 ∧ ¬ q ∈ ps ∧ ¬ g q < 0 ∧ (fr (g q).toNatClampNeg = false ∨ ∃ r, r < 8 ∧ ¬ r ∈ ps ∧ r ≠ q ∧ g r = g q)) → Rr V fr ps g s = s := by
  intro ps
  induction ps with
  | nil =>
    rintro g s ⟨q, hq, -, h0, hb⟩
    unfold Rr stp
    rw [if_neg]
    rintro ⟨v1, v2⟩
    rcases hb with hb | ⟨r, hr, -, hrq, e⟩
    · have := v1 q hq h0
      rw [hb] at this
      exact absurd this (by decide)
    · exact hrq (v2 q r hq hr h0 e.symm).symm
  | cons p ps ih =>
    rintro g s ⟨q, hq, hqm, h0, hb⟩
    have hqp : q ≠ p := fun z => hqm (by rw [z]; exact List.mem_cons_self)
    have hqs : ¬ q ∈ ps := fun z => hqm (List.mem_cons_of_mem _ z)
    have key : ∀ (v : Int32) (s : Int32 × (Nat → Int32)), Rr V fr ps (upd g p v) s = s := fun v s => by
      refine ih _ s ⟨q, hq, hqs, by rw [upd_o hqp]; exact h0, ?_⟩
      rw [upd_o hqp]
      rcases hb with hb | ⟨r, hr, hrm, hrq, e⟩
      · exact Or.inl hb
      · have hrp : r ≠ p := fun z => hrm (by rw [z]; exact List.mem_cons_self)
        exact Or.inr ⟨r, hr, fun z => hrm (List.mem_cons_of_mem _ z), hrq, by rw [upd_o hrp]; exact e⟩
    unfold Rr
    rw [key]
    exact fold_i 8 0 s (fun o _ _ => key _ s)
theorem Rr_En {fr : Nat → Bool} : ∀ (ps : List Nat) (f : Nat → Bool) (g : Nat → Int32) (s : Int32 × (Nat → Int32)), ps.Nodup → (∀ p, p ∈ ps → p < 8) → (∀ o, o < 8 → (f o = true ↔ (fr o = true ∧ ∀ q, q < 8 → ¬ q ∈ ps → g q ≠ nI o))) → (∀ q, q < 8 → ¬ q ∈ ps → ¬ g q < 0 → fr (g q).toNatClampNeg = true) → (∀ q r, q < 8 → r < 8 → ¬ q ∈ ps → ¬ r ∈ ps → ¬ g q < 0 → g q = g r → q = r) → Rr V fr ps g s = En V ps f g s := by
  intro ps
  induction ps with
  | nil =>
    intro f g s hn hl hx v1 v2
    unfold Rr stp En
    rw [if_pos ⟨fun p hp h0 => v1 p hp List.not_mem_nil h0, fun p q hp hq h0 e => v2 p q hp hq List.not_mem_nil List.not_mem_nil h0 e⟩]
  | cons p ps ih =>
    intro f g s hn hl hx v1 v2
    have hps : ¬ p ∈ ps := (List.nodup_cons.mp hn).1
    have hn2 := (List.nodup_cons.mp hn).2
    have hl2 : ∀ q, q ∈ ps → q < 8 := fun q hq => hl q (List.mem_cons_of_mem _ hq)
    have hp8 := hl p List.mem_cons_self
    have nm : ∀ q, q ≠ p → ¬ q ∈ ps → ¬ q ∈ p :: ps := fun q h1 h2 z => by
      rcases List.mem_cons.mp z with z | z
      · exact h1 z
      · exact h2 z
    have mn : ∀ q, ¬ q ∈ p :: ps → q ≠ p ∧ ¬ q ∈ ps := fun q z => ⟨fun e => z (by rw [e]; exact List.mem_cons_self), fun e => z (List.mem_cons_of_mem _ e)⟩
    have first : Rr V fr ps (upd g p (-1)) s = En V ps f (upd g p (-1)) s := by
      refine ih f _ s hn2 hl2 (fun o ho => ?_) (fun q hq hqs h0 => ?_) (fun q r hq hr hqs hrs h0 e => ?_)
      · rw [hx o ho]
        constructor
        · rintro ⟨a, c⟩
          refine ⟨a, fun q hq hqs => ?_⟩
          by_cases hqp : q = p
          · subst hqp
            rw [upd_at]
            exact (ne_m1 (by omega)).symm
          · rw [upd_o hqp]
            exact c q hq (nm q hqp hqs)
        · rintro ⟨a, c⟩
          refine ⟨a, fun q hq hqm => ?_⟩
          obtain ⟨m1, m2⟩ := mn q hqm
          have := c q hq m2
          rw [upd_o m1] at this
          exact this
      · by_cases hqp : q = p
        · subst hqp
          rw [upd_at] at h0
          exact absurd (by decide) h0
        · rw [upd_o hqp] at h0 ⊢
          exact v1 q hq (nm q hqp hqs) h0
      · by_cases hqp : q = p
        · subst hqp
          rw [upd_at] at h0
          exact absurd (by decide) h0
        · by_cases hrp : r = p
          · subst hrp
            rw [upd_at, upd_o hqp] at e
            rw [upd_o hqp, e] at h0
            exact absurd (by decide) h0
          · rw [upd_o hqp] at h0 e
            rw [upd_o hrp] at e
            exact v2 q r hq hr (nm q hqp hqs) (nm r hrp hrs) h0 e
    unfold Rr En
    rw [first]
    apply fold_c
    intro s o _ ho
    have ho8 : o < 8 := by omega
    by_cases hf : f o = true
    · rw [if_pos hf]
      obtain ⟨a, c⟩ := (hx o ho8).mp hf
      refine ih (fm f o) _ s hn2 hl2 (fun x hx8 => ?_) (fun q hq hqs h0 => ?_) (fun q r hq hr hqs hrs h0 e => ?_)
      · unfold fm
        simp only [Bool.and_eq_true, Bool.not_eq_true', decide_eq_false_iff_not]
        rw [hx x hx8]
        constructor
        · rintro ⟨⟨a2, c2⟩, hxo⟩
          refine ⟨a2, fun q hq hqs => ?_⟩
          by_cases hqp : q = p
          · subst hqp
            rw [upd_at]
            intro z
            rw [nI_eq (by omega) (by omega)] at z
            exact hxo z.symm
          · rw [upd_o hqp]
            exact c2 q hq (nm q hqp hqs)
        · rintro ⟨a2, c2⟩
          refine ⟨⟨a2, fun q hq hqm => ?_⟩, fun z => ?_⟩
          · obtain ⟨m1, m2⟩ := mn q hqm
            have := c2 q hq m2
            rw [upd_o m1] at this
            exact this
          · have := c2 p hp8 hps
            rw [upd_at, z] at this
            exact this rfl
      · by_cases hqp : q = p
        · subst hqp
          rw [upd_at, nc (by omega)]
          exact a
        · rw [upd_o hqp] at h0 ⊢
          exact v1 q hq (nm q hqp hqs) h0
      · by_cases hqp : q = p
        · by_cases hrp : r = p
          · rw [hqp, hrp]
          · subst hqp
            rw [upd_at, upd_o hrp] at e
            exact absurd e.symm (c r hr (nm r hrp hrs))
        · by_cases hrp : r = p
          · subst hrp
            rw [upd_at, upd_o hqp] at e
            exact absurd e (c q hq (nm q hqp hqs))
          · rw [upd_o hqp] at h0 e
            rw [upd_o hrp] at e
            exact v2 q r hq hr (nm q hqp hqs) (nm r hrp hrs) h0 e
    · rw [if_neg hf]
      apply Rr_bad
      refine ⟨p, hp8, hps, by rw [upd_at]; exact nI_pos (by omega), ?_⟩
      rw [upd_at, nc (by omega)]
      by_cases hfr : fr o = true
      · right
        have : ¬ ∀ q, q < 8 → ¬ q ∈ p :: ps → g q ≠ nI o := fun z => hf ((hx o ho8).mpr ⟨hfr, z⟩)
        have : ∃ q, q < 8 ∧ ¬ q ∈ p :: ps ∧ g q = nI o := by
          apply Classical.byContradiction
          intro w
          exact this (fun q hq hqm e => w ⟨q, hq, hqm, e⟩)
        obtain ⟨q, hq, hqm, e⟩ := this
        obtain ⟨m1, m2⟩ := mn q hqm
        exact ⟨q, hq, m2, m1, by rw [upd_o m1]; exact e⟩
      · left
        simpa using hfr
/-- the next number, the last person's digit lowest -/
def ic (fp : Nat → Bool) : Nat → (Nat → Int32) → Option (Nat → Int32)
  | 0, _ => none
  | k + 1, g => if fp k = true then (if g k < 7 then some (upd g k (g k + 1)) else ic fp k (upd g k (-1))) else ic fp k g
noncomputable def PL (V : (Nat → Int32) → Int32) (fr fp : Nat → Bool) : Nat → (Nat → Int32) → (Int32 × (Nat → Int32)) → (Int32 × (Nat → Int32))
  | 0, _, s => s
  | F + 1, g, s => match ic fp 8 g with
    | none => stp V fr g s
    | some g2 => PL V fr fp F g2 (stp V fr g s)
def PT (fp : Nat → Bool) : Nat → (Nat → Int32) → Prop
  | 0, _ => False
  | F + 1, g => match ic fp 8 g with
    | none => True
    | some g2 => PT fp F g2
/-- the free persons from k on -/
def fl (fp : Nat → Bool) (k : Nat) : List Nat := (List.range' k (8 - k)).filter fp
theorem fl_s {fp : Nat → Bool} {k : Nat} (hk : k < 8) : fl fp k = if fp k = true then k :: fl fp (k + 1) else fl fp (k + 1) := by
  unfold fl
  rw [show 8 - k = (8 - (k + 1)) + 1 by omega, List.range'_succ, List.filter_cons]
theorem count_C {fr fp : Nat → Bool} : ∀ (m k : Nat), k + m = 8 → ∀ (F : Nat) (g : Nat → Int32) (s : Int32 × (Nat → Int32)), (∀ p, k ≤ p → p < 8 → g p = -1) → PL V fr fp (F + 9 ^ (fl fp k).length) g s = (match ic fp k g with
    | none => Rr V fr (fl fp k) g s
    | some g2 => PL V fr fp F g2 (Rr V fr (fl fp k) g s)) ∧ ((∀ g2, ic fp k g = some g2 → PT fp F g2) → PT fp (F + 9 ^ (fl fp k).length) g) := by
  intro m
  induction m with
  | zero =>
    intro k hk F g s hg
    have : k = 8 := by omega
    subst this
    have e : fl fp 8 = [] := rfl
    rw [e]
    show PL V fr fp (F + 1) g s = _ ∧ (_ → PT fp (F + 1) g)
    refine ⟨rfl, fun h => ?_⟩
    unfold PT
    cases hq : ic fp 8 g with
    | none => trivial
    | some g2 => exact h g2 hq
  | succ m ih =>
    intro k hk F g s hg
    have hk8 : k < 8 := by omega
    rw [fl_s hk8]
    by_cases hf : fp k = true
    · rw [if_pos hf, List.length_cons]
      have hgk : g k = -1 := hg k (by omega) hk8
      have eg : upd g k (-1) = g := by
        funext q
        by_cases hq : q = k
        · subst hq
          rw [upd_at, hgk]
        · rw [upd_o hq]
      have ev : ∀ (v w : Int32), upd (upd g k v) k w = upd g k w := fun v w => by
        funext q
        by_cases hq : q = k
        · subst hq
          rw [upd_at, upd_at]
        · rw [upd_o hq, upd_o hq, upd_o hq]
      -- from the digit v on
      have hi : ∀ (v : Int32) (p : Nat), k + 1 ≤ p → p < 8 → upd g k v p = -1 := fun v p h1 h2 => by
        rw [upd_o (by omega)]
        exact hg p (by omega) h2
      have run : ∀ (d o F : Nat) (s : Int32 × (Nat → Int32)), o + d = 7 → PL V fr fp (F + (d + 1) * 9 ^ (fl fp (k + 1)).length) (upd g k (nI o)) s = (match ic fp k g with
          | none => (List.range' o (d + 1)).foldl (fun s o => Rr V fr (fl fp (k + 1)) (upd g k (nI o)) s) s
          | some g2 => PL V fr fp F g2 ((List.range' o (d + 1)).foldl (fun s o => Rr V fr (fl fp (k + 1)) (upd g k (nI o)) s) s)) ∧ ((∀ g2, ic fp k g = some g2 → PT fp F g2) → PT fp (F + (d + 1) * 9 ^ (fl fp (k + 1)).length) (upd g k (nI o))) := by
        intro d
        induction d with
        | zero =>
          intro o F s ho
          have ho7 : o = 7 := by omega
          subst ho7
          have e1 : ic fp (k + 1) (upd g k (nI 7)) = ic fp k g := by
            show (if fp k = true then (if upd g k (nI 7) k < 7 then some (upd (upd g k (nI 7)) k (upd g k (nI 7) k + 1)) else ic fp k (upd (upd g k (nI 7)) k (-1))) else ic fp k (upd g k (nI 7))) = _
            rw [if_pos hf, upd_at, if_neg (by decide), ev, eg]
          obtain ⟨q1, q2⟩ := ih (k + 1) (by omega) F (upd g k (nI 7)) s (hi _)
          rw [e1] at q1 q2
          rw [Nat.zero_add, Nat.one_mul]
          refine ⟨?_, q2⟩
          rw [q1, List.range'_succ, List.foldl_cons]
          rfl
        | succ d ihd =>
          intro o F s ho
          have e1 : ic fp (k + 1) (upd g k (nI o)) = some (upd g k (nI (o + 1))) := by
            unfold ic
            rw [if_pos hf, upd_at, if_pos (show nI o < 7 from nI_lt (b := 7) (by omega) (by omega)), ev, nI_1]
          have e2 : F + (d + 1 + 1) * 9 ^ (fl fp (k + 1)).length = F + (d + 1) * 9 ^ (fl fp (k + 1)).length + 9 ^ (fl fp (k + 1)).length := by
            rw [Nat.add_mul (d + 1) 1, Nat.one_mul]
            omega
          obtain ⟨q1, q2⟩ := ih (k + 1) (by omega) (F + (d + 1) * 9 ^ (fl fp (k + 1)).length) (upd g k (nI o)) s (hi _)
          rw [e1] at q1 q2
          obtain ⟨r1, r2⟩ := ihd (o + 1) F (Rr V fr (fl fp (k + 1)) (upd g k (nI o)) s) (by omega)
          rw [e2]
          refine ⟨?_, fun h => q2 (fun g2 e => ?_)⟩
          · refine q1.trans ?_
            show PL V fr fp _ _ _ = _
            rw [r1, show List.range' o (d + 1 + 1) = o :: List.range' (o + 1) (d + 1) from rfl, List.foldl_cons]
          · have : upd g k (nI (o + 1)) = g2 := Option.some.inj e
            rw [← this]
            exact r2 h
      have e0 : ic fp (k + 1) g = some (upd g k (nI 0)) := by
        unfold ic
        rw [if_pos hf, hgk, if_pos (by decide)]
        rfl
      have e9 : F + 9 ^ ((fl fp (k + 1)).length + 1) = F + (7 + 1) * 9 ^ (fl fp (k + 1)).length + 9 ^ (fl fp (k + 1)).length := by
        rw [Nat.pow_succ]
        omega
      obtain ⟨q1, q2⟩ := ih (k + 1) (by omega) (F + (7 + 1) * 9 ^ (fl fp (k + 1)).length) g s (fun p h1 h2 => hg p (by omega) h2)
      rw [e0] at q1 q2
      obtain ⟨r1, r2⟩ := run 7 0 F (Rr V fr (fl fp (k + 1)) g s) (by omega)
      rw [e9]
      refine ⟨?_, fun h => q2 (fun g2 e => ?_)⟩
      · refine q1.trans ?_
        show PL V fr fp _ _ _ = _
        rw [r1, show Rr V fr (k :: fl fp (k + 1)) g s = (List.range' 0 8).foldl (fun s o => Rr V fr (fl fp (k + 1)) (upd g k (nI o)) s) (Rr V fr (fl fp (k + 1)) (upd g k (-1)) s) from rfl, eg]
      · have : upd g k (nI 0) = g2 := Option.some.inj e
        rw [← this]
        exact r2 h
    · rw [if_neg hf]
      obtain ⟨q1, q2⟩ := ih (k + 1) (by omega) F g s (fun p h1 h2 => hg p (by omega) h2)
      have e : ic fp (k + 1) g = ic fp k g := by
        show (if fp k = true then _ else ic fp k g) = _
        rw [if_neg hf]
      rw [e] at q1 q2
      exact ⟨q1, q2⟩
end EN
