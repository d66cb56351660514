/-! BASE: yes or no as an int; an int that is a number below a bound -/
abbrev zb (r : Int32) (P : Prop) : Prop := (r = 1 ∧ P) ∨ (r = 0 ∧ ¬ P)
abbrev ix (n : Nat) (x : Int32) : Prop := ∃ k, k < n ∧ x = nI k
theorem ix_in {x y : Int32} {n : Nat} (hn : n < 2 ^ 31) (hy : y = nI n) (h1 : ¬ x < 0) (h2 : ¬ y ≤ x) : ix n x := by
  rcases pk_ix x hn with h | h | h
  · exact absurd h h1
  · exact absurd (by rw [hy]; exact h) h2
  · exact h
theorem ix_lo {x : Int32} {n : Nat} (hn : n < 2 ^ 31) (h : x < 0) : ¬ ix n x := by
  rintro ⟨k, hk, e⟩
  rw [e] at h
  exact nI_pos (by omega) h
theorem ix_hi {x y : Int32} {n : Nat} (hn : n < 2 ^ 31) (hy : y = nI n) (h : y ≤ x) : ¬ ix n x := by
  rintro ⟨k, hk, e⟩
  rw [e, hy] at h
  exact nI_ge hk hn h
theorem zb_t {r : Int32} {P : Prop} (h : zb r P) (c : ¬ r = 0) : P := h.elim (fun q => q.2) (fun q => absurd q.1 c)
theorem zb_f {r : Int32} {P : Prop} (h : zb r P) (c : r = 0) : ¬ P := h.elim (fun q => absurd (q.1.symm.trans c) (by decide)) (fun q => q.2)
theorem lc_0 {x : Int64} : lg_cmp x 0 = 0 ↔ x = 0 := lg_cmp_eq x 0
