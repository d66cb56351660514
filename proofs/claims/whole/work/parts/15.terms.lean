/-! PURE: terms that stand in a term; the state as numbers -/
/-- u stands in t, itself with them -/
def mx_sub (pl : Nat → Nat → Option Nat) (t u : Nat) : Prop := ∀ S : Nat → Prop, S t → (∀ x j k, S x → j < 3 → pl j x = some k → S k) → S u
theorem mx_sub_rf (pl : Nat → Nat → Option Nat) (t : Nat) : mx_sub pl t t := fun _ h _ => h
theorem mx_sub_iff {pl : Nat → Nat → Option Nat} {t u : Nat} : mx_sub pl t u ↔ u = t ∨ ∃ j k, j < 3 ∧ pl j t = some k ∧ mx_sub pl k u := by
  constructor
  · intro h
    refine h (fun x => x = t ∨ ∃ j k, j < 3 ∧ pl j t = some k ∧ mx_sub pl k x) (Or.inl rfl) ?_
    rintro x j k (rfl | ⟨j0, k0, h0, hp, hs⟩) hj hk
    · exact Or.inr ⟨j, k, hj, hk, mx_sub_rf pl k⟩
    · exact Or.inr ⟨j0, k0, h0, hp, fun S a b => b x j k (hs S a b) hj hk⟩
  · rintro (rfl | ⟨j, k, hj, hp, hs⟩)
    · exact mx_sub_rf pl u
    · exact fun S a b => hs S (b t j k a hj hp) b
theorem mx_sub_lt {pl : Nat → Nat → Option Nat} {n t u : Nat} (hw : ∀ t j k, t < n → pl j t = some k → k < t) (ht : t < n) (h : mx_sub pl t u) : u ≤ t := by
  have h1 := h (fun x => x ≤ t) (Nat.le_refl t) (fun x j k hx _ hk => by
    have := hw x j k (by omega) hk
    omega)
  exact h1
/-- places that agree ahead of n make the same terms stand in one -/
theorem mx_sub_congr {pl pl' : Nat → Nat → Option Nat} {n t u : Nat} (hw : ∀ t j k, t < n → pl j t = some k → k < t) (he : ∀ x j, x < n → pl' j x = pl j x) (ht : t < n) : mx_sub pl' t u ↔ mx_sub pl t u := by
  constructor
  · intro h S a b
    exact (h (fun x => S x ∧ x < n) ⟨a, ht⟩ (fun x j k hx hj hk => by
      rw [he x j hx.2] at hk
      exact ⟨b x j k hx.1 hj hk, Nat.lt_trans (hw x j k hx.2 hk) hx.2⟩)).1
  · intro h S a b
    exact (h (fun x => S x ∧ x < n) ⟨a, ht⟩ (fun x j k hx hj hk => by
      exact ⟨b x j k hx.1 hj (by rw [he x j hx.2]; exact hk), Nat.lt_trans (hw x j k hx.2 hk) hx.2⟩)).1
/-- a place as an int: none is -1 -/
def mx_enc : Option Nat → Int32
  | none => -1
  | some k => nI k
theorem mx_enc_m1 {o : Option Nat} (h : ∀ k, o = some k → k < 64) : mx_enc o = -1 ↔ o = none := by
  cases o with
  | none => exact ⟨fun _ => rfl, fun _ => rfl⟩
  | some k =>
    have hk := h k rfl
    constructor
    · intro q
      have h1 := nI_toInt (n := k) (by omega)
      rw [show nI k = -1 from q] at h1
      have : ((-1 : Int32).toInt) = -1 := by decide
      omega
    · intro q; cases q
theorem mx_enc_inj {a b : Option Nat} (ha : ∀ k, a = some k → k < 64) (hb : ∀ k, b = some k → k < 64) (h : mx_enc a = mx_enc b) : a = b := by
  cases a with
  | none => exact ((mx_enc_m1 hb).mp h.symm).symm
  | some x =>
    cases b with
    | none => exact (mx_enc_m1 ha).mp h
    | some y =>
      have hx := ha x rfl
      have hy := hb y rfl
      have : x = y := (nI_eq (by omega) (by omega)).mp h
      rw [this]
/-- how many places -/
def mx_ar (pl : Nat → Nat → Option Nat) (t : Nat) : Nat := match pl 0 t with
  | none => 0
  | some _ => match pl 1 t with
    | none => 1
    | some _ => match pl 2 t with
      | none => 2
      | some _ => 3
