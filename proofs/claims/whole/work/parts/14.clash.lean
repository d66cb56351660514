/-! PURE: what lies below; rows that can be cleared; a term below itself -/
/-- cleared: in every set that takes a term once all that is right below its row is in -/
def mx_clr (T : mx_T) (nm : Nat → Nat) (x : Nat) : Prop :=
  ∀ S : Nat → Prop, (∀ t, t < mx_n T → (∀ u j k, u < mx_n T → nm u = nm t → mx_bu T u = true → j < 3 → mx_pl T j u = some k → S k) → S t) → S x
/-- right below: k in a place of a builder's term that is one with t -/
def mx_bel (T : mx_T) (nm : Nat → Nat) (t k : Nat) : Prop := ∃ u j, u < mx_n T ∧ nm u = nm t ∧ mx_bu T u = true ∧ j < 3 ∧ mx_pl T j u = some k
theorem mx_clr_step {T : mx_T} {nm : Nat → Nat} {t : Nat} (ht : t < mx_n T) (h : ∀ k, mx_bel T nm t k → mx_clr T nm k) : mx_clr T nm t := by
  intro S hS
  exact hS t ht (fun u j k hu e hb hj hp => h k ⟨u, j, hu, e, hb, hj, hp⟩ S hS)
/-- a set that is stuck holds all that can be cleared -/
theorem mx_clr_stuck {T : mx_T} {nm : Nat → Nat} {C : Nat → Bool} (h : ∀ t, t < mx_n T → (∀ k, mx_bel T nm t k → C k = true) → C t = true) {x : Nat} (hx : mx_clr T nm x) : C x = true :=
  hx (fun y => C y = true) (fun t ht q => h t ht (fun k ⟨u, j, hu, e, hb, hj, hp⟩ => q u j k hu e hb hj hp))
