/-! PURE: the bits of a long -/
def jb (x : Int64) (i : Nat) : Bool := x.toBitVec.getLsbD i
theorem jb_ext {x y : Int64} (h : ∀ i, i < 64 → jb x i = jb y i) : x = y :=
  Int64.toBitVec.inj (BitVec.eq_of_getLsbD_eq fun i hi => h i hi)
theorem jb_or (x y : Int64) (i : Nat) : jb (x ||| y) i = (jb x i || jb y i) := by
  show ((x ||| y).toBitVec).getLsbD i = _
  rw [Int64.toBitVec_or, BitVec.getLsbD_or]; rfl
theorem jb_and (x y : Int64) (i : Nat) : jb (x &&& y) i = (jb x i && jb y i) := by
  show ((x &&& y).toBitVec).getLsbD i = _
  rw [Int64.toBitVec_and, BitVec.getLsbD_and]; rfl
theorem jb_0 (i : Nat) : jb 0 i = false := by
  show ((0 : Int64).toBitVec).getLsbD i = false
  rw [show (0 : Int64).toBitVec = 0#64 from rfl]
  exact BitVec.getLsbD_zero
theorem jb_big {x : Int64} {i : Nat} (h : 64 ≤ i) : jb x i = false := BitVec.getLsbD_of_ge _ _ h
theorem jb_lt {x : Int64} {i : Nat} (h : jb x i = true) : i < 64 := by
  rcases Nat.lt_or_ge i 64 with q | q
  · exact q
  · rw [jb_big q] at h; cases h
theorem jb_eq0 {x : Int64} : x = 0 ↔ ∀ i, i < 64 → jb x i = false := by
  constructor
  · rintro rfl i -; exact jb_0 i
  · intro h; exact jb_ext fun i hi => by rw [h i hi, jb_0]
theorem jb_ne0 {x : Int64} (h : ¬ x = 0) : ∃ i, i < 64 ∧ jb x i = true := by
  refine Classical.byContradiction fun hn => h (jb_eq0.mpr fun i hi => ?_)
  cases hb : jb x i with
  | false => rfl
  | true => exact absurd ⟨i, hi, hb⟩ hn
theorem jb_nat (x : Int64) (i : Nat) : jb x i = x.toBitVec.toNat.testBit i := rfl
theorem jb_lN (m i : Nat) : jb (lN m) i = (decide (i < 64) && m.testBit i) := by
  show (BitVec.ofNat 64 m).getLsbD i = _
  rw [BitVec.getLsbD_ofNat]
theorem jb_c : ∀ k, k < 64 → ((nI k).toInt64 &&& 63) = lN k := by decide +kernel
theorem jb_sm : ∀ k, k < 64 → ((lN k).toBitVec.smod 64) = BitVec.ofNat 64 k := by decide +kernel
theorem jb_one {k : Nat} (hk : k < 64) (i : Nat) : jb ((1 : Int64) <<< ((nI k).toInt64 &&& 63)) i = decide (i = k) := by
  rw [jb_c k hk]
  show ((1 : Int64) <<< (lN k)).toBitVec.getLsbD i = _
  rw [Int64.toBitVec_shiftLeft, jb_sm k hk, BitVec.shiftLeft_eq', BitVec.getLsbD_shiftLeft, BitVec.toNat_ofNat, Nat.mod_eq_of_lt (show k < 2 ^ 64 by omega), show (1 : Int64).toBitVec = 1#64 from rfl, BitVec.getLsbD_one]
  by_cases e : i = k
  · subst e; simp [hk]
  · rw [decide_eq_false e]
    by_cases h1 : i < k
    · simp [h1]
    · have h2 : ¬ i - k = 0 := by omega
      simp [h2]
theorem jb_oneN {k : Nat} (hk : k < 64) : (1 : Int64) <<< ((nI k).toInt64 &&& 63) = lN (2 ^ k) := by
  refine jb_ext fun i hi => ?_
  rw [jb_one hk, jb_lN, Nat.testBit_two_pow, decide_eq_true hi, Bool.true_and]
  by_cases e : i = k
  · subst e; simp
  · rw [decide_eq_false e, decide_eq_false (fun q => e q.symm)]
/-- all bits ahead of c -/
theorem jb_mask {c : Nat} (hc : c < 64) (i : Nat) : jb (((1 : Int64) <<< ((nI c).toInt64 &&& 63)) - 1) i = decide (i < c) := by
  rw [jb_oneN hc, show (1 : Int64) = lN 1 from rfl, lN_sub Nat.one_le_two_pow, jb_lN, Nat.testBit_two_pow_sub_one]
  by_cases h : i < c
  · rw [decide_eq_true h, decide_eq_true (show i < 64 by omega)]; rfl
  · rw [decide_eq_false h, Bool.and_false]
theorem jb_shr {x : Int64} {k : Nat} (hk : k < 64) {i : Nat} (hi : k + i < 64) : jb (x >>> ((nI k).toInt64 &&& 63)) i = jb x (k + i) := by
  rw [jb_c k hk]
  show (x >>> (lN k)).toBitVec.getLsbD i = _
  rw [Int64.toBitVec_shiftRight, jb_sm k hk, BitVec.sshiftRight_eq', BitVec.getLsbD_sshiftRight, BitVec.toNat_ofNat, Nat.mod_eq_of_lt (show k < 2 ^ 64 by omega)]
  have h1 : ¬ 64 ≤ i := by omega
  simp [h1, hi, jb]
/-- the question (set >> k & 1) != 0 -/
theorem jb_tst {x : Int64} {k : Nat} (hk : k < 64) : ((x >>> ((nI k).toInt64 &&& 63)) &&& 1) = 0 ↔ jb x k = false := by
  have h1 : ∀ i, jb (1 : Int64) i = decide (i = 0) := fun i => by
    show ((1 : Int64).toBitVec).getLsbD i = _
    rw [show (1 : Int64).toBitVec = 1#64 from rfl, BitVec.getLsbD_one]
    simp
  rw [jb_eq0]
  constructor
  · intro h
    have h2 := h 0 (by omega)
    rw [jb_and, h1, jb_shr hk (i := 0) (by omega)] at h2
    simpa using h2
  · intro h i hi
    rw [jb_and, h1]
    by_cases e : i = 0
    · subst e
      rw [jb_shr hk (i := 0) (by omega)]
      simp [h]
    · rw [decide_eq_false e, Bool.and_false]
theorem jb_not (x : Int64) {i : Nat} (hi : i < 64) : jb (x ^^^ (-1)) i = !jb x i := by
  show ((x ^^^ (-1)).toBitVec).getLsbD i = _
  rw [Int64.toBitVec_xor, BitVec.getLsbD_xor, show (-1 : Int64).toBitVec = BitVec.allOnes 64 from rfl, BitVec.getLsbD_allOnes, decide_eq_true hi, Bool.xor_true]
  rfl
/-- a within b: nothing of a is left outside -/
theorem jb_sub {a b : Int64} : (a &&& (b ^^^ (-1))) = 0 ↔ ∀ i, jb a i = true → jb b i = true := by
  rw [jb_eq0]
  constructor
  · intro h i hi
    have hl := jb_lt hi
    have h2 := h i hl
    rw [jb_and, jb_not _ hl, hi] at h2
    simpa using h2
  · intro h i hi
    rw [jb_and, jb_not _ hi]
    cases ha : jb a i with
    | false => rfl
    | true => rw [h i ha]; rfl
/-- the lowest bit -/
def jb_low (x : Int64) (k : Nat) : Prop := mx_least (fun i => jb x i = true) k
theorem jb_low_ex {x : Int64} (h : ¬ x = 0) : ∃ k, k < 64 ∧ jb_low x k := by
  obtain ⟨i, hi, hb⟩ := jb_ne0 h
  obtain ⟨k, hk, hl⟩ := mx_least_ex (P := fun i => jb x i = true) hb
  exact ⟨k, by omega, hk⟩
theorem jb_low_nat {X k : Nat} (h1 : X.testBit k = true) (h2 : ∀ i, i < k → X.testBit i = false) : X = 2 ^ (k + 1) * (X / 2 ^ (k + 1)) + 2 ^ k := by
  have h : X % 2 ^ (k + 1) = 2 ^ k := by
    refine Nat.eq_of_testBit_eq fun j => ?_
    rw [Nat.testBit_mod_two_pow, Nat.testBit_two_pow]
    rcases Nat.lt_trichotomy j k with q | q | q
    · rw [h2 j q, decide_eq_false (show ¬ k = j by omega), Bool.and_false]
    · subst q; simp [h1]
    · rw [decide_eq_false (show ¬ j < k + 1 by omega), decide_eq_false (show ¬ k = j by omega), Bool.false_and]
  have := Nat.div_add_mod X (2 ^ (k + 1))
  omega
/-- x & (x - 1): without its lowest bit -/
theorem jb_clr {x : Int64} {k : Nat} (h : jb_low x k) (i : Nat) : jb (x &&& (x - 1)) i = (jb x i && decide (i ≠ k)) := by
  have hk : k < 64 := jb_lt h.1
  have hX := jb_low_nat (X := x.toBitVec.toNat) (k := k) h.1 (fun j hj => by
    cases hb : x.toBitVec.toNat.testBit j with
    | false => rfl
    | true => exact absurd hb (h.2 j hj))
  generalize hm : x.toBitVec.toNat / 2 ^ (k + 1) = m at hX
  have hlt : x.toBitVec.toNat < 2 ^ 64 := x.toBitVec.isLt
  have hp : 0 < 2 ^ k := Nat.two_pow_pos k
  have h1 : (x - 1).toBitVec.toNat = 2 ^ (k + 1) * m + (2 ^ k - 1) := by
    rw [Int64.toBitVec_sub, BitVec.toNat_sub, show ((1 : Int64).toBitVec).toNat = 1 from rfl]
    omega
  have hb1 : 2 ^ k < 2 ^ (k + 1) := Nat.pow_lt_pow_right (by omega) (by omega)
  rw [jb_and, jb_nat x i, jb_nat (x - 1) i, h1]
  conv => lhs; rw [hX]
  conv => rhs; rw [hX]
  rw [Nat.testBit_two_pow_mul_add _ hb1, Nat.testBit_two_pow_mul_add _ (show 2 ^ k - 1 < 2 ^ (k + 1) by omega), Nat.testBit_two_pow, Nat.testBit_two_pow_sub_one]
  by_cases hi : i < k + 1
  · rw [if_pos hi, if_pos hi]
    by_cases e : i = k
    · subst e; simp
    · rw [decide_eq_false (show ¬ k = i by omega)]; simp
  · rw [if_neg hi, if_neg hi, decide_eq_true (show i ≠ k by omega)]
    simp
/-- how many bits -/
def jb_cnt (x : Int64) : Nat := mx_cnt (jb x) 64
theorem jb_cnt_le (x : Int64) : jb_cnt x ≤ 64 := mx_cnt_le _ _
theorem jb_cnt_0 {x : Int64} : jb_cnt x = 0 ↔ x = 0 := by
  constructor
  · intro h; exact jb_eq0.mpr (mx_cnt_z h)
  · rintro rfl; exact mx_cnt_0 (fun i _ => jb_0 i)
theorem jb_cnt_clr {x : Int64} {k : Nat} (h : jb_low x k) : jb_cnt (x &&& (x - 1)) + 1 = jb_cnt x :=
  mx_cnt_drop (g := k) (fun i _ => jb_clr h i) (jb_lt h.1) h.1
/-- a set of numbers ahead of n: its count by the numbers -/
theorem jb_cnt_n {x : Int64} {p : Nat → Bool} {n : Nat} (hn : n ≤ 64) (h : ∀ i, jb x i = (decide (i < n) && p i)) : jb_cnt x = mx_cnt p n := by
  unfold jb_cnt
  rw [mx_cnt_cut hn (fun i h1 _ => by rw [h, decide_eq_false (show ¬ i < n by omega), Bool.false_and])]
  exact mx_cnt_congr (fun i hi => by rw [h, decide_eq_true hi, Bool.true_and])
