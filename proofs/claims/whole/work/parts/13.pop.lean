/-! PURE: how Long.bitCount counts: bytes side by side -/
theorem sw_and (a c : Nat) {b d : Nat} (hb : b < 256) (hd : d < 256) : (256 * a + b) &&& (256 * c + d) = 256 * (a &&& c) + (b &&& d) := by
  have hbd : b &&& d < 2 ^ 8 := Nat.and_lt_two_pow b hd
  refine Nat.eq_of_testBit_eq fun j => ?_
  rw [Nat.testBit_and, show (256 : Nat) = 2 ^ 8 from rfl, Nat.testBit_two_pow_mul_add _ (show b < 2 ^ 8 from hb), Nat.testBit_two_pow_mul_add _ (show d < 2 ^ 8 from hd), Nat.testBit_two_pow_mul_add _ hbd]
  by_cases h : j < 8
  · rw [if_pos h, if_pos h, if_pos h, Nat.testBit_and]
  · rw [if_neg h, if_neg h, if_neg h, Nat.testBit_and]
def sw1 (M x : Nat) : Nat := x - (x / 2 &&& M)
def sw2 (M x : Nat) : Nat := (x &&& M) + (x / 4 &&& M)
def sw3 (M x : Nat) : Nat := (x + x / 16) &&& M
def sw_m (v : Nat) : Nat → Nat
  | 0 => 0
  | k + 1 => 256 * sw_m v k + v
theorem sw_d1 : ∀ e, e < 2 → ∀ b, b < 256 → (128 * e + b / 2) &&& 85 = (b / 2 &&& 85) := by decide +kernel
theorem sw_d2 : ∀ e, e < 4 → ∀ b, b < 256 → (64 * e + b / 4) &&& 51 = (b / 4 &&& 51) := by decide +kernel
theorem sw_d3 : ∀ e, e < 5 → ∀ b, b < 69 → (b + 16 * e + b / 16) &&& 15 = ((b + b / 16) &&& 15) := by decide +kernel
theorem sw_d4 : ∀ b, b < 256 → sw1 85 b < 256 ∧ sw2 51 (sw1 85 b) < 69 ∧ sw2 51 (sw1 85 b) % 16 < 5 ∧ sw3 15 (sw2 51 (sw1 85 b)) = mx_cnt b.testBit 8 := by decide +kernel
theorem sw_s1 (M a : Nat) {b : Nat} (hb : b < 256) : sw1 (256 * M + 85) (256 * a + b) = 256 * sw1 M a + sw1 85 b := by
  unfold sw1
  have e : (256 * a + b) / 2 = 256 * (a / 2) + (128 * (a % 2) + b / 2) := by omega
  rw [e, sw_and _ _ (by omega) (by omega), sw_d1 _ (by omega) b hb]
  have h1 : (a / 2 &&& M) ≤ a := Nat.le_trans Nat.and_le_left (Nat.div_le_self _ _)
  have h2 : (b / 2 &&& 85) ≤ b := Nat.le_trans Nat.and_le_left (Nat.div_le_self _ _)
  omega
theorem sw_s2 (M a : Nat) {b : Nat} (hb : b < 256) : sw2 (256 * M + 51) (256 * a + b) = 256 * sw2 M a + sw2 51 b := by
  unfold sw2
  have e : (256 * a + b) / 4 = 256 * (a / 4) + (64 * (a % 4) + b / 4) := by omega
  rw [e, sw_and _ _ hb (by omega), sw_and _ _ (show 64 * (a % 4) + b / 4 < 256 by omega) (by omega), sw_d2 _ (by omega) b hb]
  omega
theorem sw_s3 (M a : Nat) {b : Nat} (hb : b < 69) (ha : a % 16 < 5) : sw3 (256 * M + 15) (256 * a + b) = 256 * sw3 M a + sw3 15 b := by
  unfold sw3
  have e : 256 * a + b + (256 * a + b) / 16 = 256 * (a + a / 16) + (b + 16 * (a % 16) + b / 16) := by omega
  rw [e, sw_and _ _ (by omega) (by omega), sw_d3 _ ha b hb]
def sw_G (k x : Nat) : Nat := sw3 (sw_m 15 k) (sw2 (sw_m 51 k) (sw1 (sw_m 85 k) x))
theorem sw_low (k x : Nat) : sw2 (sw_m 51 k) (sw1 (sw_m 85 k) x) % 16 < 5 := by
  cases k with
  | zero =>
    have : sw2 (sw_m 51 0) (sw1 (sw_m 85 0) x) = 0 := by simp [sw2, sw_m]
    omega
  | succ k =>
    have e : x = 256 * (x / 256) + x % 256 := by omega
    have hb : x % 256 < 256 := by omega
    obtain ⟨h1, h2, h3, -⟩ := sw_d4 (x % 256) hb
    rw [e]
    show sw2 (256 * sw_m 51 k + 51) (sw1 (256 * sw_m 85 k + 85) (256 * (x / 256) + x % 256)) % 16 < 5
    rw [sw_s1 _ _ hb, sw_s2 _ _ h1]
    omega
theorem sw_step (k a : Nat) {b : Nat} (hb : b < 256) : sw_G (k + 1) (256 * a + b) = 256 * sw_G k a + mx_cnt b.testBit 8 := by
  obtain ⟨h1, h2, h3, h4⟩ := sw_d4 b hb
  show sw3 (256 * sw_m 15 k + 15) (sw2 (256 * sw_m 51 k + 51) (sw1 (256 * sw_m 85 k + 85) (256 * a + b))) = _
  rw [sw_s1 _ _ hb, sw_s2 _ _ h1, sw_s3 _ _ h2 (sw_low k a), h4]
  rfl
theorem sw_bits (X k : Nat) : mx_cnt X.testBit (8 + k) = mx_cnt (X % 256).testBit 8 + mx_cnt (X / 256).testBit k := by
  rw [mx_cnt_add]
  have h1 : mx_cnt X.testBit 8 = mx_cnt (X % 256).testBit 8 := mx_cnt_congr (fun i hi => by
    rw [show (256 : Nat) = 2 ^ 8 from rfl, Nat.testBit_mod_two_pow, decide_eq_true hi, Bool.true_and])
  have h2 : mx_cnt (fun i => X.testBit (8 + i)) k = mx_cnt (X / 256).testBit k := mx_cnt_congr (fun i hi => by
    rw [show (256 : Nat) = 2 ^ 8 from rfl, Nat.testBit_div_two_pow, Nat.add_comm])
  rw [h1, h2]
theorem sw_le (b : Nat) : mx_cnt b.testBit 8 ≤ 8 := mx_cnt_le _ _
theorem sw_z {Y c0 c1 c2 c3 c4 c5 c6 c7 : Nat} (l0 : c0 ≤ 8) (l1 : c1 ≤ 8) (l2 : c2 ≤ 8) (l3 : c3 ≤ 8) (l4 : c4 ≤ 8) (l5 : c5 ≤ 8) (l6 : c6 ≤ 8) (l7 : c7 ≤ 8) (hY : Y = (c0) + 256 * (c1) + 65536 * (c2) + 16777216 * (c3) + 4294967296 * (c4) + 1099511627776 * (c5) + 281474976710656 * (c6) + 72057594037927936 * (c7)) : Y < 2 ^ 60 ∧ Y + Y / 256 = (c0 + c1) + 256 * (c1 + c2) + 65536 * (c2 + c3) + 16777216 * (c3 + c4) + 4294967296 * (c4 + c5) + 1099511627776 * (c5 + c6) + 281474976710656 * (c6 + c7) + 72057594037927936 * (c7) := by omega
theorem sw_v {Z c0 c1 c2 c3 c4 c5 c6 c7 : Nat} (l0 : c0 ≤ 8) (l1 : c1 ≤ 8) (l2 : c2 ≤ 8) (l3 : c3 ≤ 8) (l4 : c4 ≤ 8) (l5 : c5 ≤ 8) (l6 : c6 ≤ 8) (l7 : c7 ≤ 8) (hZ : Z = (c0 + c1) + 256 * (c1 + c2) + 65536 * (c2 + c3) + 16777216 * (c3 + c4) + 4294967296 * (c4 + c5) + 1099511627776 * (c5 + c6) + 281474976710656 * (c6 + c7) + 72057594037927936 * (c7)) : Z < 2 ^ 61 ∧ Z + Z / 65536 = (c0 + c1 + c2 + c3) + 256 * (c1 + c2 + c3 + c4) + 65536 * (c2 + c3 + c4 + c5) + 16777216 * (c3 + c4 + c5 + c6) + 4294967296 * (c4 + c5 + c6 + c7) + 1099511627776 * (c5 + c6 + c7) + 281474976710656 * (c6 + c7) + 72057594037927936 * (c7) := by omega
theorem sw_q {V c0 c1 c2 c3 c4 c5 c6 c7 : Nat} (l0 : c0 ≤ 8) (l1 : c1 ≤ 8) (l2 : c2 ≤ 8) (l3 : c3 ≤ 8) (l4 : c4 ≤ 8) (l5 : c5 ≤ 8) (l6 : c6 ≤ 8) (l7 : c7 ≤ 8) (hV : V = (c0 + c1 + c2 + c3) + 256 * (c1 + c2 + c3 + c4) + 65536 * (c2 + c3 + c4 + c5) + 16777216 * (c3 + c4 + c5 + c6) + 4294967296 * (c4 + c5 + c6 + c7) + 1099511627776 * (c5 + c6 + c7) + 281474976710656 * (c6 + c7) + 72057594037927936 * (c7)) : V < 2 ^ 62 ∧ V + V / 4294967296 = (c0 + c1 + c2 + c3 + c4 + c5 + c6 + c7) + 256 * (c1 + c2 + c3 + c4 + c5 + c6 + c7) + 65536 * (c2 + c3 + c4 + c5 + c6 + c7) + 16777216 * (c3 + c4 + c5 + c6 + c7) + 4294967296 * (c4 + c5 + c6 + c7) + 1099511627776 * (c5 + c6 + c7) + 281474976710656 * (c6 + c7) + 72057594037927936 * (c7) := by omega
theorem sw_e {Q c0 c1 c2 c3 c4 c5 c6 c7 : Nat} (l0 : c0 ≤ 8) (l1 : c1 ≤ 8) (l2 : c2 ≤ 8) (l3 : c3 ≤ 8) (l4 : c4 ≤ 8) (l5 : c5 ≤ 8) (l6 : c6 ≤ 8) (l7 : c7 ≤ 8) (hQ : Q = (c0 + c1 + c2 + c3 + c4 + c5 + c6 + c7) + 256 * (c1 + c2 + c3 + c4 + c5 + c6 + c7) + 65536 * (c2 + c3 + c4 + c5 + c6 + c7) + 16777216 * (c3 + c4 + c5 + c6 + c7) + 4294967296 * (c4 + c5 + c6 + c7) + 1099511627776 * (c5 + c6 + c7) + 281474976710656 * (c6 + c7) + 72057594037927936 * (c7)) : Q < 2 ^ 63 ∧ Q % 4294967296 % 128 = c0 + c1 + c2 + c3 + c4 + c5 + c6 + c7 := by omega
/-- all that bitCount does, in numbers -/
theorem sw_all {X : Nat} (hX : X < 2 ^ 64) : ∃ Y, Y = sw_G 8 X ∧ Y < 2 ^ 60 ∧ ∃ Z, Z = Y + Y / 256 ∧ Z < 2 ^ 61 ∧ ∃ V, V = Z + Z / 65536 ∧ V < 2 ^ 62 ∧ ∃ Q, Q = V + V / 4294967296 ∧ Q < 2 ^ 63 ∧ Q % 4294967296 % 128 = mx_cnt X.testBit 64 := by
  have step : ∀ (k x : Nat), sw_G (k + 1) x = 256 * sw_G k (x / 256) + mx_cnt (x % 256).testBit 8 := fun k x => by
    have e : x = 256 * (x / 256) + x % 256 := by omega
    conv => lhs; rw [e]
    exact sw_step k (x / 256) (by omega)
  have s0 : ∀ x, sw_G 0 x = 0 := fun x => by simp [sw_G, sw3, sw_m]
  have b0 := sw_bits X 56
  have b1 := sw_bits (X / 256) 48
  have b2 := sw_bits (X / 256 / 256) 40
  have b3 := sw_bits (X / 256 / 256 / 256) 32
  have b4 := sw_bits (X / 256 / 256 / 256 / 256) 24
  have b5 := sw_bits (X / 256 / 256 / 256 / 256 / 256) 16
  have b6 := sw_bits (X / 256 / 256 / 256 / 256 / 256 / 256) 8
  have b7 := sw_bits (X / 256 / 256 / 256 / 256 / 256 / 256 / 256) 0
  have z8 : mx_cnt (X / 256 / 256 / 256 / 256 / 256 / 256 / 256 / 256).testBit 0 = 0 := rfl
  have g := step 7 X
  rw [step 6, step 5, step 4, step 3, step 2, step 1, step 0, s0] at g
  have l0 := sw_le (X % 256)
  have l1 := sw_le (X / 256 % 256)
  have l2 := sw_le (X / 256 / 256 % 256)
  have l3 := sw_le (X / 256 / 256 / 256 % 256)
  have l4 := sw_le (X / 256 / 256 / 256 / 256 % 256)
  have l5 := sw_le (X / 256 / 256 / 256 / 256 / 256 % 256)
  have l6 := sw_le (X / 256 / 256 / 256 / 256 / 256 / 256 % 256)
  have l7 := sw_le (X / 256 / 256 / 256 / 256 / 256 / 256 / 256 % 256)
  generalize mx_cnt (X % 256).testBit 8 = c0 at *
  generalize mx_cnt (X / 256 % 256).testBit 8 = c1 at *
  generalize mx_cnt (X / 256 / 256 % 256).testBit 8 = c2 at *
  generalize mx_cnt (X / 256 / 256 / 256 % 256).testBit 8 = c3 at *
  generalize mx_cnt (X / 256 / 256 / 256 / 256 % 256).testBit 8 = c4 at *
  generalize mx_cnt (X / 256 / 256 / 256 / 256 / 256 % 256).testBit 8 = c5 at *
  generalize mx_cnt (X / 256 / 256 / 256 / 256 / 256 / 256 % 256).testBit 8 = c6 at *
  generalize mx_cnt (X / 256 / 256 / 256 / 256 / 256 / 256 / 256 % 256).testBit 8 = c7 at *
  have hs : mx_cnt X.testBit 64 = c0 + c1 + c2 + c3 + c4 + c5 + c6 + c7 := by
    rw [show (64 : Nat) = 8 + 56 from rfl, b0, show (56 : Nat) = 8 + 48 from rfl, b1, show (48 : Nat) = 8 + 40 from rfl, b2, show (40 : Nat) = 8 + 32 from rfl, b3, show (32 : Nat) = 8 + 24 from rfl, b4, show (24 : Nat) = 8 + 16 from rfl, b5, show (16 : Nat) = 8 + 8 from rfl, b6]
    rw [show mx_cnt (X / 256 / 256 / 256 / 256 / 256 / 256 / 256).testBit 8 = c7 + 0 from b7]
    omega
  generalize sw_G 8 X = Y at g ⊢
  have hY : Y = (c0) + 256 * (c1) + 65536 * (c2) + 16777216 * (c3) + 4294967296 * (c4) + 1099511627776 * (c5) + 281474976710656 * (c6) + 72057594037927936 * (c7) := by omega
  obtain ⟨z1, z2⟩ := sw_z l0 l1 l2 l3 l4 l5 l6 l7 hY
  obtain ⟨v1, v2⟩ := sw_v l0 l1 l2 l3 l4 l5 l6 l7 z2
  obtain ⟨q1, q2⟩ := sw_q l0 l1 l2 l3 l4 l5 l6 l7 v2
  obtain ⟨e1, e2⟩ := sw_e l0 l1 l2 l3 l4 l5 l6 l7 q2
  exact ⟨Y, rfl, z1, _, rfl, v1, _, rfl, q1, _, rfl, e1, by rw [hs]; exact e2⟩
