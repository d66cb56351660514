/-! PURE: counting below a bound; the least one of a kind -/
def mx_cnt (p : Nat → Bool) : Nat → Nat
  | 0 => 0
  | k + 1 => mx_cnt p k + (if p k = true then 1 else 0)
theorem mx_cnt_s (p : Nat → Bool) (k : Nat) : mx_cnt p (k + 1) = mx_cnt p k + (if p k = true then 1 else 0) := rfl
theorem mx_cnt_le (p : Nat → Bool) (n : Nat) : mx_cnt p n ≤ n := by
  induction n with
  | zero => exact Nat.le_refl 0
  | succ n ih =>
    rw [mx_cnt_s]
    split <;> omega
theorem mx_cnt_congr {p q : Nat → Bool} {n : Nat} (h : ∀ i, i < n → p i = q i) : mx_cnt p n = mx_cnt q n := by
  induction n with
  | zero => rfl
  | succ n ih =>
    rw [mx_cnt_s, mx_cnt_s, ih (fun i hi => h i (by omega)), h n (by omega)]
theorem mx_cnt_mono {p q : Nat → Bool} {n : Nat} (h : ∀ i, i < n → p i = true → q i = true) : mx_cnt p n ≤ mx_cnt q n := by
  induction n with
  | zero => exact Nat.le_refl 0
  | succ n ih =>
    have h1 := ih (fun i hi => h i (by omega))
    have h2 := h n (by omega)
    rw [mx_cnt_s, mx_cnt_s]
    by_cases hp : p n = true
    · rw [if_pos hp, if_pos (h2 hp)]; omega
    · rw [if_neg hp]; omega
theorem mx_cnt_drop {p q : Nat → Bool} {g n : Nat} (h : ∀ i, i < n → q i = (p i && decide (i ≠ g))) (hg : g < n) (hp : p g = true) : mx_cnt q n + 1 = mx_cnt p n := by
  induction n with
  | zero => omega
  | succ n ih =>
    rw [mx_cnt_s, mx_cnt_s]
    have hn := h n (by omega)
    by_cases e : n = g
    · have hc : mx_cnt q n = mx_cnt p n := mx_cnt_congr (fun i hi => by
        rw [h i (by omega), decide_eq_true (show i ≠ g by omega), Bool.and_true])
      have h0 : q n = false := by rw [hn, e]; simp
      have h1 : p n = true := by rw [e]; exact hp
      rw [hc, h0, h1]
      simp
    · have h1 := ih (fun i hi => h i (by omega)) (by omega)
      have h2 : q n = p n := by rw [hn, decide_eq_true e, Bool.and_true]
      rw [h2]
      omega
theorem mx_cnt_0 {p : Nat → Bool} {n : Nat} (h : ∀ i, i < n → p i = false) : mx_cnt p n = 0 := by
  induction n with
  | zero => rfl
  | succ n ih =>
    rw [mx_cnt_s, ih (fun i hi => h i (by omega)), h n (by omega)]
    simp
theorem mx_cnt_z {p : Nat → Bool} {n : Nat} (h : mx_cnt p n = 0) : ∀ i, i < n → p i = false := by
  intro i hi
  cases hp : p i with
  | false => rfl
  | true =>
    have h1 := mx_cnt_drop (p := p) (q := fun j => (p j && decide (j ≠ i))) (g := i) (n := n) (fun j _ => rfl) hi hp
    omega
theorem mx_cnt_add (p : Nat → Bool) (a : Nat) : ∀ b, mx_cnt p (a + b) = mx_cnt p a + mx_cnt (fun i => p (a + i)) b
  | 0 => rfl
  | b + 1 => by
    rw [← Nat.add_assoc, mx_cnt_s, mx_cnt_s, mx_cnt_add p a b]
    omega
/-- beyond the bound there is none -/
theorem mx_cnt_cut {p : Nat → Bool} {n m : Nat} (hnm : n ≤ m) (h : ∀ i, n ≤ i → i < m → p i = false) : mx_cnt p m = mx_cnt p n := by
  obtain ⟨d, rfl⟩ : ∃ d, m = n + d := ⟨m - n, by omega⟩
  rw [mx_cnt_add, mx_cnt_0 (p := fun i => p (n + i)) (fun i hi => h (n + i) (by omega) (by omega))]
  omega
/-- the least one of a kind -/
def mx_least (P : Nat → Prop) (k : Nat) : Prop := P k ∧ ∀ j, j < k → ¬ P j
theorem mx_least_ex {P : Nat → Prop} {i : Nat} (h : P i) : ∃ k, mx_least P k ∧ k ≤ i := by
  obtain ⟨k, h1, h2⟩ := pk_least P ⟨i, h⟩
  refine ⟨k, ⟨h1, h2⟩, ?_⟩
  rcases Nat.lt_or_ge i k with q | q
  · exact absurd h (h2 i q)
  · exact q
theorem mx_least_eq {P Q : Nat → Prop} {a b : Nat} (ha : mx_least P a) (hb : mx_least Q b) (h : ∀ i, P i ↔ Q i) : a = b := by
  rcases Nat.lt_trichotomy a b with q | q | q
  · exact absurd ((h a).mp ha.1) (hb.2 a q)
  · exact q
  · exact absurd ((h b).mpr hb.1) (ha.2 b q)
