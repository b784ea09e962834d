/-! bits (out of the kit's starting texts) -/
def bt (x : Int32) (i : Nat) : Bool := x.toBitVec.getLsbD i
theorem b_ext {x y : Int32} (h : ∀ i, i < 32 → bt x i = bt y i) : x = y := Int32.toBitVec_inj.mp (BitVec.eq_of_getLsbD_eq (fun i hi => h i hi))
theorem b_or (x y : Int32) (i : Nat) : bt (x ||| y) i = (bt x i || bt y i) := by unfold bt; rw [Int32.toBitVec_or, BitVec.getLsbD_or]
theorem b_and (x y : Int32) (i : Nat) : bt (x &&& y) i = (bt x i && bt y i) := by unfold bt; rw [Int32.toBitVec_and, BitVec.getLsbD_and]
theorem b_xor (x y : Int32) (i : Nat) : bt (x ^^^ y) i = (bt x i ^^ bt y i) := by unfold bt; rw [Int32.toBitVec_xor, BitVec.getLsbD_xor]
theorem b_big {x : Int32} {i : Nat} (h : 32 ≤ i) : bt x i = false := BitVec.getLsbD_of_ge _ _ h
theorem b_255 (i : Nat) : bt 255 i = decide (i < 8) := by
  rcases Nat.lt_or_ge i 32 with h | h
  · exact (by decide +kernel : ∀ i, i < 32 → bt 255 i = decide (i < 8)) i h
  · rw [b_big h, decide_eq_false (by omega)]
theorem b_65535 (i : Nat) : bt 65535 i = decide (i < 16) := by
  rcases Nat.lt_or_ge i 32 with h | h
  · exact (by decide +kernel : ∀ i, i < 32 → bt 65535 i = decide (i < 16)) i h
  · rw [b_big h, decide_eq_false (by omega)]
theorem b_m1 : ∀ i, i < 32 → bt (-1) i = true := by decide +kernel
theorem b_0 (i : Nat) : bt 0 i = false := BitVec.getLsbD_zero
theorem s_l : ∀ n, n < 32 → ((nI n &&& 31).toBitVec.smod 32).toNat = n := by decide +kernel
theorem s_u : ∀ n, n < 32 → (((nI n).toUInt32 &&& Int32.toUInt32 31).toBitVec % 32).toNat = n := by decide +kernel
theorem b_shl (n : Nat) (hn : n < 32) (x : Int32) {i : Nat} (hi : i < 32) : bt (x <<< (nI n &&& 31)) i = (decide (n ≤ i) && bt x (i - n)) := by
  unfold bt
  rw [Int32.toBitVec_shiftLeft]
  show (x.toBitVec <<< ((nI n &&& 31).toBitVec.smod 32).toNat).getLsbD i = _
  rw [s_l n hn, BitVec.getLsbD_shiftLeft]
  rcases Nat.lt_or_ge i n with h | h
  · simp [h, Nat.not_le.mpr h]
  · simp [hi, h, Nat.not_lt.mpr h]
theorem b_ushr (n : Nat) (hn : n < 32) (x : Int32) (i : Nat) : bt ((x.toUInt32 >>> ((nI n).toUInt32 &&& Int32.toUInt32 31)).toInt32) i = bt x (n + i) := by
  show (x.toUInt32 >>> ((nI n).toUInt32 &&& Int32.toUInt32 31)).toBitVec.getLsbD i = x.toUInt32.toBitVec.getLsbD (n + i)
  rw [UInt32.toBitVec_shiftRight]
  show (x.toUInt32.toBitVec >>> (((nI n).toUInt32 &&& Int32.toUInt32 31).toBitVec % 32).toNat).getLsbD i = _
  rw [s_u n hn, BitVec.getLsbD_ushiftRight]
theorem b_sshr (n : Nat) (hn : n < 32) (x : Int32) {i : Nat} (hi : i < 32) : bt (x >>> (nI n &&& 31)) i = if n + i < 32 then bt x (n + i) else bt x 31 := by
  unfold bt
  rw [Int32.toBitVec_shiftRight]
  show (x.toBitVec.sshiftRight ((nI n &&& 31).toBitVec.smod 32).toNat).getLsbD i = _
  rw [s_l n hn, BitVec.getLsbD_sshiftRight, BitVec.msb_eq_getLsbD_last]
  simp [hi]
theorem b_1 (i : Nat) : bt 1 i = decide (i = 0) := by
  rcases Nat.lt_or_ge i 32 with h | h
  · exact (by decide +kernel : ∀ i, i < 32 → bt 1 i = decide (i = 0)) i h
  · rw [b_big h, decide_eq_false (by omega)]
theorem b_one {q i : Nat} (hq : q < 32) (hi : i < 32) : bt (1 <<< (nI q &&& 31)) i = decide (i = q) := by
  rw [b_shl q hq 1 hi, b_1]
  by_cases h : i = q
  · subst h; simp
  · rw [decide_eq_false h]
    by_cases h2 : q ≤ i
    · rw [decide_eq_false (show ¬ i - q = 0 by omega), Bool.and_false]
    · rw [decide_eq_false h2, Bool.false_and]
theorem b_is {x : Int32} {q : Nat} (hq : q < 32) : (zush x (nI q)) &&& 1 = 1 ↔ bt x q = true := by
  have h1 : bt (zush x (nI q)) 0 = bt x q := by
    have := b_ushr q hq x 0
    rw [Nat.add_zero] at this
    exact this
  constructor
  · intro h
    have h2 : bt ((zush x (nI q)) &&& 1) 0 = bt 1 0 := by rw [h]
    rw [b_and, b_1, h1] at h2
    simpa using h2
  · intro h
    apply b_ext
    intro i hi
    rw [b_and, b_1]
    by_cases h0 : i = 0
    · subst h0
      rw [h1, h]
      rfl
    · rw [decide_eq_false h0, Bool.and_false]
/-! the class's books -/
section C1
variable {σ β : zw_S} {T N y k : Nat} {hd : Nat → Int32}
theorem c_rd {α : Type} {f n i : Nat} {F : Int32 → Option α} (hk : k + 12 ≤ 38) (hn : cap f = n) (hi : i < n) : rd (pk σ k β hd) (k + f) n (nI i) F = F (β f i) := by
  have : n ≤ 1000 := by
    rw [← hn]
    unfold cap
    grind
  rw [rd_i hi this, pk_b hk (by omega)]
theorem c_wt {α : Type} {f n i : Nat} {v : Int32} {F : zw_S → Option α} (hk : k + 12 ≤ 38) (hn : cap f = n) (hi : i < n) : wt (pk σ k β hd) (k + f) n (nI i) v F = F (pk σ k (zw_wr β f i v) hd) := by
  have : n ≤ 1000 := by
    rw [← hn]
    unfold cap
    grind
  rw [wt_i hi this, pk_wb hk (by omega)]
theorem c_r1 {α : Type} {i : Nat} {F : Int32 → Option α} (hk : k + 12 ≤ 38) (hi : i < 8) : rd (pk σ k β hd) (k + 1) 8 (nI i) F = F (β 1 i) := c_rd (f := 1) hk rfl hi
theorem c_w1 {α : Type} {i : Nat} {v : Int32} {F : zw_S → Option α} (hk : k + 12 ≤ 38) (hi : i < 8) : wt (pk σ k β hd) (k + 1) 8 (nI i) v F = F (pk σ k (zw_wr β 1 i v) hd) := c_wt (f := 1) hk rfl hi
theorem ca_r1 {α : Type} {i : Nat} {F : Int32 → Option α} (hi : i < 8) : rd (pk σ 1 β hd) 2 8 (nI i) F = F (β 1 i) := c_rd (k := 1) (f := 1) (by decide) rfl hi
theorem ca_w1 {α : Type} {i : Nat} {v : Int32} {F : zw_S → Option α} (hi : i < 8) : wt (pk σ 1 β hd) 2 8 (nI i) v F = F (pk σ 1 (zw_wr β 1 i v) hd) := c_wt (k := 1) (f := 1) (by decide) rfl hi
theorem ct_r1 {α : Type} {i : Nat} {F : Int32 → Option α} (hi : i < 8) : rd (pk σ 25 β hd) 26 8 (nI i) F = F (β 1 i) := c_rd (k := 25) (f := 1) (by decide) rfl hi
theorem ct_w1 {α : Type} {i : Nat} {v : Int32} {F : zw_S → Option α} (hi : i < 8) : wt (pk σ 25 β hd) 26 8 (nI i) v F = F (pk σ 25 (zw_wr β 1 i v) hd) := c_wt (k := 25) (f := 1) (by decide) rfl hi
theorem c_r2 {α : Type} {i : Nat} {F : Int32 → Option α} (hk : k + 12 ≤ 38) (hi : i < 8) : rd (pk σ k β hd) (k + 2) 8 (nI i) F = F (β 2 i) := c_rd (f := 2) hk rfl hi
theorem c_w2 {α : Type} {i : Nat} {v : Int32} {F : zw_S → Option α} (hk : k + 12 ≤ 38) (hi : i < 8) : wt (pk σ k β hd) (k + 2) 8 (nI i) v F = F (pk σ k (zw_wr β 2 i v) hd) := c_wt (f := 2) hk rfl hi
theorem ca_r2 {α : Type} {i : Nat} {F : Int32 → Option α} (hi : i < 8) : rd (pk σ 1 β hd) 3 8 (nI i) F = F (β 2 i) := c_rd (k := 1) (f := 2) (by decide) rfl hi
theorem ca_w2 {α : Type} {i : Nat} {v : Int32} {F : zw_S → Option α} (hi : i < 8) : wt (pk σ 1 β hd) 3 8 (nI i) v F = F (pk σ 1 (zw_wr β 2 i v) hd) := c_wt (k := 1) (f := 2) (by decide) rfl hi
theorem ct_r2 {α : Type} {i : Nat} {F : Int32 → Option α} (hi : i < 8) : rd (pk σ 25 β hd) 27 8 (nI i) F = F (β 2 i) := c_rd (k := 25) (f := 2) (by decide) rfl hi
theorem ct_w2 {α : Type} {i : Nat} {v : Int32} {F : zw_S → Option α} (hi : i < 8) : wt (pk σ 25 β hd) 27 8 (nI i) v F = F (pk σ 25 (zw_wr β 2 i v) hd) := c_wt (k := 25) (f := 2) (by decide) rfl hi
theorem c_r3 {α : Type} {i : Nat} {F : Int32 → Option α} (hk : k + 12 ≤ 38) (hi : i < 20) : rd (pk σ k β hd) (k + 3) 20 (nI i) F = F (β 3 i) := c_rd (f := 3) hk rfl hi
theorem c_w3 {α : Type} {i : Nat} {v : Int32} {F : zw_S → Option α} (hk : k + 12 ≤ 38) (hi : i < 20) : wt (pk σ k β hd) (k + 3) 20 (nI i) v F = F (pk σ k (zw_wr β 3 i v) hd) := c_wt (f := 3) hk rfl hi
theorem ca_r3 {α : Type} {i : Nat} {F : Int32 → Option α} (hi : i < 20) : rd (pk σ 1 β hd) 4 20 (nI i) F = F (β 3 i) := c_rd (k := 1) (f := 3) (by decide) rfl hi
theorem ca_w3 {α : Type} {i : Nat} {v : Int32} {F : zw_S → Option α} (hi : i < 20) : wt (pk σ 1 β hd) 4 20 (nI i) v F = F (pk σ 1 (zw_wr β 3 i v) hd) := c_wt (k := 1) (f := 3) (by decide) rfl hi
theorem ct_r3 {α : Type} {i : Nat} {F : Int32 → Option α} (hi : i < 20) : rd (pk σ 25 β hd) 28 20 (nI i) F = F (β 3 i) := c_rd (k := 25) (f := 3) (by decide) rfl hi
theorem ct_w3 {α : Type} {i : Nat} {v : Int32} {F : zw_S → Option α} (hi : i < 20) : wt (pk σ 25 β hd) 28 20 (nI i) v F = F (pk σ 25 (zw_wr β 3 i v) hd) := c_wt (k := 25) (f := 3) (by decide) rfl hi
theorem c_r4 {α : Type} {i : Nat} {F : Int32 → Option α} (hk : k + 12 ≤ 38) (hi : i < 20) : rd (pk σ k β hd) (k + 4) 20 (nI i) F = F (β 4 i) := c_rd (f := 4) hk rfl hi
theorem c_w4 {α : Type} {i : Nat} {v : Int32} {F : zw_S → Option α} (hk : k + 12 ≤ 38) (hi : i < 20) : wt (pk σ k β hd) (k + 4) 20 (nI i) v F = F (pk σ k (zw_wr β 4 i v) hd) := c_wt (f := 4) hk rfl hi
theorem ca_r4 {α : Type} {i : Nat} {F : Int32 → Option α} (hi : i < 20) : rd (pk σ 1 β hd) 5 20 (nI i) F = F (β 4 i) := c_rd (k := 1) (f := 4) (by decide) rfl hi
theorem ca_w4 {α : Type} {i : Nat} {v : Int32} {F : zw_S → Option α} (hi : i < 20) : wt (pk σ 1 β hd) 5 20 (nI i) v F = F (pk σ 1 (zw_wr β 4 i v) hd) := c_wt (k := 1) (f := 4) (by decide) rfl hi
theorem ct_r4 {α : Type} {i : Nat} {F : Int32 → Option α} (hi : i < 20) : rd (pk σ 25 β hd) 29 20 (nI i) F = F (β 4 i) := c_rd (k := 25) (f := 4) (by decide) rfl hi
theorem ct_w4 {α : Type} {i : Nat} {v : Int32} {F : zw_S → Option α} (hi : i < 20) : wt (pk σ 25 β hd) 29 20 (nI i) v F = F (pk σ 25 (zw_wr β 4 i v) hd) := c_wt (k := 25) (f := 4) (by decide) rfl hi
theorem c_r5 {α : Type} {i : Nat} {F : Int32 → Option α} (hk : k + 12 ≤ 38) (hi : i < 20) : rd (pk σ k β hd) (k + 5) 20 (nI i) F = F (β 5 i) := c_rd (f := 5) hk rfl hi
theorem c_w5 {α : Type} {i : Nat} {v : Int32} {F : zw_S → Option α} (hk : k + 12 ≤ 38) (hi : i < 20) : wt (pk σ k β hd) (k + 5) 20 (nI i) v F = F (pk σ k (zw_wr β 5 i v) hd) := c_wt (f := 5) hk rfl hi
theorem ca_r5 {α : Type} {i : Nat} {F : Int32 → Option α} (hi : i < 20) : rd (pk σ 1 β hd) 6 20 (nI i) F = F (β 5 i) := c_rd (k := 1) (f := 5) (by decide) rfl hi
theorem ca_w5 {α : Type} {i : Nat} {v : Int32} {F : zw_S → Option α} (hi : i < 20) : wt (pk σ 1 β hd) 6 20 (nI i) v F = F (pk σ 1 (zw_wr β 5 i v) hd) := c_wt (k := 1) (f := 5) (by decide) rfl hi
theorem ct_r5 {α : Type} {i : Nat} {F : Int32 → Option α} (hi : i < 20) : rd (pk σ 25 β hd) 30 20 (nI i) F = F (β 5 i) := c_rd (k := 25) (f := 5) (by decide) rfl hi
theorem ct_w5 {α : Type} {i : Nat} {v : Int32} {F : zw_S → Option α} (hi : i < 20) : wt (pk σ 25 β hd) 30 20 (nI i) v F = F (pk σ 25 (zw_wr β 5 i v) hd) := c_wt (k := 25) (f := 5) (by decide) rfl hi
theorem c_r6 {α : Type} {i : Nat} {F : Int32 → Option α} (hk : k + 12 ≤ 38) (hi : i < 20) : rd (pk σ k β hd) (k + 6) 20 (nI i) F = F (β 6 i) := c_rd (f := 6) hk rfl hi
theorem c_w6 {α : Type} {i : Nat} {v : Int32} {F : zw_S → Option α} (hk : k + 12 ≤ 38) (hi : i < 20) : wt (pk σ k β hd) (k + 6) 20 (nI i) v F = F (pk σ k (zw_wr β 6 i v) hd) := c_wt (f := 6) hk rfl hi
theorem ca_r6 {α : Type} {i : Nat} {F : Int32 → Option α} (hi : i < 20) : rd (pk σ 1 β hd) 7 20 (nI i) F = F (β 6 i) := c_rd (k := 1) (f := 6) (by decide) rfl hi
theorem ca_w6 {α : Type} {i : Nat} {v : Int32} {F : zw_S → Option α} (hi : i < 20) : wt (pk σ 1 β hd) 7 20 (nI i) v F = F (pk σ 1 (zw_wr β 6 i v) hd) := c_wt (k := 1) (f := 6) (by decide) rfl hi
theorem ct_r6 {α : Type} {i : Nat} {F : Int32 → Option α} (hi : i < 20) : rd (pk σ 25 β hd) 31 20 (nI i) F = F (β 6 i) := c_rd (k := 25) (f := 6) (by decide) rfl hi
theorem ct_w6 {α : Type} {i : Nat} {v : Int32} {F : zw_S → Option α} (hi : i < 20) : wt (pk σ 25 β hd) 31 20 (nI i) v F = F (pk σ 25 (zw_wr β 6 i v) hd) := c_wt (k := 25) (f := 6) (by decide) rfl hi
theorem c_r7 {α : Type} {i : Nat} {F : Int32 → Option α} (hk : k + 12 ≤ 38) (hi : i < 8) : rd (pk σ k β hd) (k + 7) 8 (nI i) F = F (β 7 i) := c_rd (f := 7) hk rfl hi
theorem c_w7 {α : Type} {i : Nat} {v : Int32} {F : zw_S → Option α} (hk : k + 12 ≤ 38) (hi : i < 8) : wt (pk σ k β hd) (k + 7) 8 (nI i) v F = F (pk σ k (zw_wr β 7 i v) hd) := c_wt (f := 7) hk rfl hi
theorem ca_r7 {α : Type} {i : Nat} {F : Int32 → Option α} (hi : i < 8) : rd (pk σ 1 β hd) 8 8 (nI i) F = F (β 7 i) := c_rd (k := 1) (f := 7) (by decide) rfl hi
theorem ca_w7 {α : Type} {i : Nat} {v : Int32} {F : zw_S → Option α} (hi : i < 8) : wt (pk σ 1 β hd) 8 8 (nI i) v F = F (pk σ 1 (zw_wr β 7 i v) hd) := c_wt (k := 1) (f := 7) (by decide) rfl hi
theorem ct_r7 {α : Type} {i : Nat} {F : Int32 → Option α} (hi : i < 8) : rd (pk σ 25 β hd) 32 8 (nI i) F = F (β 7 i) := c_rd (k := 25) (f := 7) (by decide) rfl hi
theorem ct_w7 {α : Type} {i : Nat} {v : Int32} {F : zw_S → Option α} (hi : i < 8) : wt (pk σ 25 β hd) 32 8 (nI i) v F = F (pk σ 25 (zw_wr β 7 i v) hd) := c_wt (k := 25) (f := 7) (by decide) rfl hi
theorem c_r8 {α : Type} {i : Nat} {F : Int32 → Option α} (hk : k + 12 ≤ 38) (hi : i < 8) : rd (pk σ k β hd) (k + 8) 8 (nI i) F = F (β 8 i) := c_rd (f := 8) hk rfl hi
theorem c_w8 {α : Type} {i : Nat} {v : Int32} {F : zw_S → Option α} (hk : k + 12 ≤ 38) (hi : i < 8) : wt (pk σ k β hd) (k + 8) 8 (nI i) v F = F (pk σ k (zw_wr β 8 i v) hd) := c_wt (f := 8) hk rfl hi
theorem ca_r8 {α : Type} {i : Nat} {F : Int32 → Option α} (hi : i < 8) : rd (pk σ 1 β hd) 9 8 (nI i) F = F (β 8 i) := c_rd (k := 1) (f := 8) (by decide) rfl hi
theorem ca_w8 {α : Type} {i : Nat} {v : Int32} {F : zw_S → Option α} (hi : i < 8) : wt (pk σ 1 β hd) 9 8 (nI i) v F = F (pk σ 1 (zw_wr β 8 i v) hd) := c_wt (k := 1) (f := 8) (by decide) rfl hi
theorem ct_r8 {α : Type} {i : Nat} {F : Int32 → Option α} (hi : i < 8) : rd (pk σ 25 β hd) 33 8 (nI i) F = F (β 8 i) := c_rd (k := 25) (f := 8) (by decide) rfl hi
theorem ct_w8 {α : Type} {i : Nat} {v : Int32} {F : zw_S → Option α} (hi : i < 8) : wt (pk σ 25 β hd) 33 8 (nI i) v F = F (pk σ 25 (zw_wr β 8 i v) hd) := c_wt (k := 25) (f := 8) (by decide) rfl hi
theorem c_r9 {α : Type} {i : Nat} {F : Int32 → Option α} (hk : k + 12 ≤ 38) (hi : i < 8) : rd (pk σ k β hd) (k + 9) 8 (nI i) F = F (β 9 i) := c_rd (f := 9) hk rfl hi
theorem c_w9 {α : Type} {i : Nat} {v : Int32} {F : zw_S → Option α} (hk : k + 12 ≤ 38) (hi : i < 8) : wt (pk σ k β hd) (k + 9) 8 (nI i) v F = F (pk σ k (zw_wr β 9 i v) hd) := c_wt (f := 9) hk rfl hi
theorem ca_r9 {α : Type} {i : Nat} {F : Int32 → Option α} (hi : i < 8) : rd (pk σ 1 β hd) 10 8 (nI i) F = F (β 9 i) := c_rd (k := 1) (f := 9) (by decide) rfl hi
theorem ca_w9 {α : Type} {i : Nat} {v : Int32} {F : zw_S → Option α} (hi : i < 8) : wt (pk σ 1 β hd) 10 8 (nI i) v F = F (pk σ 1 (zw_wr β 9 i v) hd) := c_wt (k := 1) (f := 9) (by decide) rfl hi
theorem ct_r9 {α : Type} {i : Nat} {F : Int32 → Option α} (hi : i < 8) : rd (pk σ 25 β hd) 34 8 (nI i) F = F (β 9 i) := c_rd (k := 25) (f := 9) (by decide) rfl hi
theorem ct_w9 {α : Type} {i : Nat} {v : Int32} {F : zw_S → Option α} (hi : i < 8) : wt (pk σ 25 β hd) 34 8 (nI i) v F = F (pk σ 25 (zw_wr β 9 i v) hd) := c_wt (k := 25) (f := 9) (by decide) rfl hi
theorem c_r10 {α : Type} {i : Nat} {F : Int32 → Option α} (hk : k + 12 ≤ 38) (hi : i < 8) : rd (pk σ k β hd) (k + 10) 8 (nI i) F = F (β 10 i) := c_rd (f := 10) hk rfl hi
theorem c_w10 {α : Type} {i : Nat} {v : Int32} {F : zw_S → Option α} (hk : k + 12 ≤ 38) (hi : i < 8) : wt (pk σ k β hd) (k + 10) 8 (nI i) v F = F (pk σ k (zw_wr β 10 i v) hd) := c_wt (f := 10) hk rfl hi
theorem ca_r10 {α : Type} {i : Nat} {F : Int32 → Option α} (hi : i < 8) : rd (pk σ 1 β hd) 11 8 (nI i) F = F (β 10 i) := c_rd (k := 1) (f := 10) (by decide) rfl hi
theorem ca_w10 {α : Type} {i : Nat} {v : Int32} {F : zw_S → Option α} (hi : i < 8) : wt (pk σ 1 β hd) 11 8 (nI i) v F = F (pk σ 1 (zw_wr β 10 i v) hd) := c_wt (k := 1) (f := 10) (by decide) rfl hi
theorem ct_r10 {α : Type} {i : Nat} {F : Int32 → Option α} (hi : i < 8) : rd (pk σ 25 β hd) 35 8 (nI i) F = F (β 10 i) := c_rd (k := 25) (f := 10) (by decide) rfl hi
theorem ct_w10 {α : Type} {i : Nat} {v : Int32} {F : zw_S → Option α} (hi : i < 8) : wt (pk σ 25 β hd) 35 8 (nI i) v F = F (pk σ 25 (zw_wr β 10 i v) hd) := c_wt (k := 25) (f := 10) (by decide) rfl hi
theorem c_r11 {α : Type} {i : Nat} {F : Int32 → Option α} (hk : k + 12 ≤ 38) (hi : i < 10) : rd (pk σ k β hd) (k + 11) 10 (nI i) F = F (β 11 i) := c_rd (f := 11) hk rfl hi
theorem c_w11 {α : Type} {i : Nat} {v : Int32} {F : zw_S → Option α} (hk : k + 12 ≤ 38) (hi : i < 10) : wt (pk σ k β hd) (k + 11) 10 (nI i) v F = F (pk σ k (zw_wr β 11 i v) hd) := c_wt (f := 11) hk rfl hi
theorem ca_r11 {α : Type} {i : Nat} {F : Int32 → Option α} (hi : i < 10) : rd (pk σ 1 β hd) 12 10 (nI i) F = F (β 11 i) := c_rd (k := 1) (f := 11) (by decide) rfl hi
theorem ca_w11 {α : Type} {i : Nat} {v : Int32} {F : zw_S → Option α} (hi : i < 10) : wt (pk σ 1 β hd) 12 10 (nI i) v F = F (pk σ 1 (zw_wr β 11 i v) hd) := c_wt (k := 1) (f := 11) (by decide) rfl hi
theorem ct_r11 {α : Type} {i : Nat} {F : Int32 → Option α} (hi : i < 10) : rd (pk σ 25 β hd) 36 10 (nI i) F = F (β 11 i) := c_rd (k := 25) (f := 11) (by decide) rfl hi
theorem ct_w11 {α : Type} {i : Nat} {v : Int32} {F : zw_S → Option α} (hi : i < 10) : wt (pk σ 25 β hd) 36 10 (nI i) v F = F (pk σ 25 (zw_wr β 11 i v) hd) := c_wt (k := 25) (f := 11) (by decide) rfl hi
theorem c_hrd {α : Type} {i : Nat} {F : Int32 → Option α} (hi : i < 8) : rd (pk σ k β hd) 38 8 (nI i) F = F (hd i) := by
  rw [rd_i hi (by omega), pk_h hi]
theorem c_hwt {α : Type} {i : Nat} {v : Int32} {F : zw_S → Option α} (hi : i < 8) : wt (pk σ k β hd) 38 8 (nI i) v F = F (pk σ k β (upd hd i v)) := by
  rw [wt_i hi (by omega), pk_wh hi]
theorem c_ended (hk : k + 12 ≤ 38) {t : Nat} (ht : t < 20) : m_X0_isEnded k (pk σ k β hd) (nI t) = some (if se β t = true then 1 else 0, pk σ k β hd) := by
  unfold m_X0_isEnded
  rw [c_r5 hk ht]
  by_cases h : β 5 t = 0
  · simp [se, h]
  · simp [se, h]
theorem c_bearer (hk : k + 12 ≤ 38) (h : Wf T N y β) (x : Int32) : m_X0_bearerOf k (pk σ k β hd) x = some (sbear β x, pk σ k β hd) := by
  have hN := h.N8
  have key : ∀ q n i, i + q = N → q < n → m_X0_bearerOf_2 k n (pk σ k β hd) x (nI i) = some (sfind (fun p => decide (β 7 p = x)) i q, pk σ k β hd) := by
    intro q
    induction q with
    | zero =>
      intro n i hi hn
      obtain ⟨n, rfl⟩ : ∃ m, n = m + 1 := ⟨n - 1, by omega⟩
      unfold m_X0_bearerOf_2
      rw [pk_s hk (by omega), h.eN, if_pos (nI_le (by omega) (by omega)), sfind_0]
    | succ q ih =>
      intro n i hi hn
      obtain ⟨n, rfl⟩ : ∃ m, n = m + 1 := ⟨n - 1, by omega⟩
      unfold m_X0_bearerOf_2
      rw [pk_s hk (by omega), h.eN, if_neg (nI_ge (by omega) (by omega)), c_r7 hk (by omega), sfind_s]
      by_cases hb : β 7 i = x
      · rw [if_pos hb, if_pos (by simp [hb])]
      · rw [if_neg hb, if_neg (by simp [hb]), nm_ok, nI_1]
        exact ih n (i + 1) (by omega) (by omega)
  unfold m_X0_bearerOf sbear
  rw [h.hN]
  exact key N 200 0 (by omega) (by omega)
/-- the names that are open, as a set -/
def sset (β : zw_S) (s : Int32) (i q : Nat) : Int32 := (List.range' i q).foldl (fun s t => if se β t = true then s else s ||| (1 <<< (β 4 t &&& 31))) s
theorem sset_s {s : Int32} {i q : Nat} : sset β s i (q + 1) = sset β (if se β i = true then s else s ||| (1 <<< (β 4 i &&& 31))) (i + 1) q := by
  unfold sset
  rw [List.range'_succ, List.foldl_cons]
def sopens (β : zw_S) : Int32 := sset β 0 0 (tn β)
theorem hrs_le (h : Wf T N y β) {t : Nat} (ht : t < T) : β 5 t ≤ 0 ↔ se β t = true := by
  obtain ⟨a, ha, e⟩ := h.hrs ht
  unfold se
  rw [e, decide_eq_true_eq, show (0 : Int32) = nI 0 from rfl, nI_leI (by omega) (by omega), nI_eq (by omega) (by omega)]
  omega
theorem c_openNames (hk : k + 12 ≤ 38) (h : Wf T N y β) : m_X0_openNames k (pk σ k β hd) = some (sopens β, pk σ k β hd) := by
  have hT := h.T20
  have key : ∀ q n i s, i + q = T → q < n → m_X0_openNames_4 k n (pk σ k β hd) s (nI i) = some (sset β s i q, pk σ k β hd) := by
    intro q
    induction q with
    | zero =>
      intro n i s hi hn
      obtain ⟨n, rfl⟩ : ∃ m, n = m + 1 := ⟨n - 1, by omega⟩
      unfold m_X0_openNames_4
      rw [pk_s hk (by omega), h.eT, if_pos (nI_le (by omega) (by omega))]
      rfl
    | succ q ih =>
      intro n i s hi hn
      obtain ⟨n, rfl⟩ : ∃ m, n = m + 1 := ⟨n - 1, by omega⟩
      unfold m_X0_openNames_4
      rw [pk_s hk (by omega), h.eT, if_neg (nI_ge (by omega) (by omega)), c_r5 hk (by omega), sset_s]
      by_cases hb : β 5 i ≤ 0
      · rw [if_pos hb, nm_ok, nI_1, if_pos ((hrs_le h (by omega)).mp hb)]
        exact ih n (i + 1) _ (by omega) (by omega)
      · rw [if_neg hb, c_r4 hk (by omega), nm_ok, nm_ok, nI_1, if_neg (fun z => hb ((hrs_le h (by omega)).mpr z))]
        exact ih n (i + 1) _ (by omega) (by omega)
  unfold m_X0_openNames sopens
  rw [h.hT]
  exact key T 200 0 0 (by omega) (by omega)
theorem sset_bt (h : Wf T N y β) {o : Nat} (ho : o < 32) : ∀ q i s, i + q = T → bt (sset β s i q) o = (bt s o || sany (fun t => decide (β 4 t = nI o) && !se β t) i q) := by
  intro q
  induction q with
  | zero => intro i s _; simp [sset, sany]
  | succ q ih =>
    intro i s hi
    obtain ⟨a, ha, e⟩ := h.own (t := i) (by omega)
    rw [sset_s, ih (i + 1) _ (by omega), sany_s]
    by_cases he : se β i = true
    · rw [if_pos he]
      simp [he]
    · rw [if_neg he, b_or, e, b_one (by omega) ho]
      have : (decide (nI a = nI o)) = decide (o = a) := by
        by_cases hq : o = a
        · subst hq; simp
        · rw [decide_eq_false hq, decide_eq_false (fun z => hq ((nI_eq (by omega) (by omega)).mp z).symm)]
      rw [this]
      simp [he, Bool.or_assoc]
theorem sopens_bt (h : Wf T N y β) {o : Nat} (ho : o < 32) : bt (sopens β) o = sopen β (nI o) := by
  unfold sopens sopen
  rw [h.hT, sset_bt h ho T 0 0 (by omega), b_0, Bool.false_or]
theorem c_isOpen (hk : k + 12 ≤ 38) (h : Wf T N y β) {o : Nat} (ho : o < 8) : m_X0_isOpen k (pk σ k β hd) (nI o) = some (if sopen β (nI o) = true then 1 else 0, pk σ k β hd) := by
  unfold m_X0_isOpen
  rw [c_openNames hk h, cl_ok]
  by_cases hb : sopen β (nI o) = true
  · rw [if_pos ((b_is (by omega)).mpr (by rw [sopens_bt h (by omega)]; exact hb)), if_pos hb]
  · rw [if_neg (fun z => hb (by rw [← sopens_bt h (show o < 32 by omega)]; exact (b_is (by omega)).mp z)), if_neg hb]
theorem c_atHand (hk : k + 12 ≤ 38) (h : Wf T N y β) {t : Nat} (ht : t < T) : m_X0_isAtHand k (pk σ k β hd) (nI t) = some (if sat β t = true then 1 else 0, pk σ k β hd) := by
  have hT := h.T20
  unfold m_X0_isAtHand
  rw [c_r5 hk (by omega)]
  by_cases hb : β 5 t ≤ 0
  · rw [if_pos hb, if_neg (by simp [sat, (hrs_le h ht).mp hb])]
  · have he : ¬ se β t = true := fun z => hb ((hrs_le h ht).mpr z)
    rw [if_neg hb, c_r6 hk (by omega)]
    rcases h.need ht with h6 | ⟨n, hn, h6⟩
    · rw [h6, if_pos (by decide), if_pos (by simp [sat, he, h6])]
    · rw [h6, if_neg (nI_pos (by omega)), c_r6 hk (by omega), h6, c_r5 hk (by omega)]
      by_cases h0 : β 5 n = 0
      · have hn0 : se β n = true := by simp [se, h0]
        rw [if_pos h0, if_pos (by simp only [sat, h6, nI_clamp (show n < 2 ^ 31 by omega)]; simp [he, hn0])]
      · rw [if_neg h0, if_neg (by simp only [sat, h6, nI_clamp (show n < 2 ^ 31 by omega)]; have : ¬ nI n < 0 := nI_pos (by omega); simp [se, h0, this])]
end C1
