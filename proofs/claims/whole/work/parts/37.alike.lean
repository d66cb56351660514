/-! ALIKE: bits of terms alike; the terms' arrays -/
abbrev nwL : Cond := .methodLinkNest RX1 108 yX3_leastOf RX3
/-- the terms' arrays hold the terms -/
def tm_ok (T : mx_T) (sg fa fb fc : Nat → Int32) (os : Nat → Int64) : Prop :=
  (∀ t, t < mx_n T → sg t = nI (mx_sg T t) ∧ mx_sg T t < 16 ∧ fa t = mx_enc (mx_pl T 0 t) ∧ fb t = mx_enc (mx_pl T 1 t) ∧ fc t = mx_enc (mx_pl T 2 t)) ∧
  ∀ s, s < 16 → ∀ t, jb (os s) t = true ↔ t < mx_n T ∧ mx_sg T t = s
theorem al_j {T : mx_T} (hw : mx_wf T) {nn : Nat → Nat} {M : Nat → Nat → Bool} {U : Nat → Nat → Nat → Bool} {B : Nat → Nat → Bool} {b : Nat → Option Nat} {mixed : Bool} (hr : mx_rows T nn M U B b mixed) {F : Nat → Int64} {j : Nat} (hj : j < 3) (hF : ∀ r t, U j r t = jb (F r) t)
    {t i : Nat} (ht : t < mx_n T) (hi : i < mx_n T) (hs : mx_sg T i = mx_sg T t) : al_1 F nn (mx_pl T j t) i = true ↔ mx_pr (mx_r (mx_n T) nn) (mx_pl T j t) (mx_pl T j i) := by
  cases hp : mx_pl T j t with
  | none =>
    have : mx_pl T j i = none := (hw.2.1 t i j ht hi hs.symm).mp hp
    rw [this]
    exact ⟨fun _ => trivial, fun _ => rfl⟩
  | some k =>
    have hk : k < mx_n T := Nat.lt_trans (hw.1 t j k ht hp) ht
    have hrt := hr.1 k hk
    show jb (F (nn k)) i = true ↔ _
    rw [← hF, hr.2.2.1 j (nn k) hj hrt.1 hrt.2 i]
    constructor
    · rintro ⟨-, q, h1, h2⟩
      rw [h1]
      exact ⟨hk, Nat.lt_trans (hw.1 i j q hi h1) hi, h2.symm⟩
    · intro h
      cases hq : mx_pl T j i with
      | none => rw [hq] at h; exact h.elim
      | some q =>
        rw [hq] at h
        exact ⟨hi, q, rfl, h.2.2.symm⟩
theorem al_iff {T : mx_T} (hw : mx_wf T) {nn : Nat → Nat} {nm : Nat → Int32} {me fu su tu be : Nat → Int64} {bd : Nat → Int32} {mi : Int32} (h : rk_ok T nn nm me fu su tu be bd mi) {sg fa fb fc : Nat → Int32} {os : Nat → Int64} (htm : tm_ok T sg fa fb fc os)
    {t : Nat} (ht : t < mx_n T) (i : Nat) : (jb (os (mx_sg T t)) i && al_1 fu nn (mx_pl T 0 t) i && al_1 su nn (mx_pl T 1 t) i && al_1 tu nn (mx_pl T 2 t) i) = true ↔ mx_al T nn t i := by
  obtain ⟨-, b, mixed, hr, -⟩ := h
  have hos := htm.2 (mx_sg T t) (htm.1 t ht).2.1 i
  simp only [Bool.and_eq_true]
  constructor
  · rintro ⟨⟨⟨h1, h2⟩, h3⟩, h4⟩
    obtain ⟨hi, hs⟩ := hos.mp h1
    refine ⟨hi, hs, fun j hj => ?_⟩
    rcases (show j = 0 ∨ j = 1 ∨ j = 2 by omega) with rfl | rfl | rfl
    · exact (al_j hw hr (F := fu) (by omega) (fun _ _ => rfl) ht hi hs).mp h2
    · exact (al_j hw hr (F := su) (by omega) (fun _ _ => rfl) ht hi hs).mp h3
    · exact (al_j hw hr (F := tu) (by omega) (fun _ _ => rfl) ht hi hs).mp h4
  · rintro ⟨hi, hs, hp⟩
    exact ⟨⟨⟨hos.mpr ⟨hi, hs⟩, (al_j hw hr (F := fu) (by omega) (fun _ _ => rfl) ht hi hs).mpr (hp 0 (by omega))⟩, (al_j hw hr (F := su) (by omega) (fun _ _ => rfl) ht hi hs).mpr (hp 1 (by omega))⟩, (al_j hw hr (F := tu) (by omega) (fun _ _ => rfl) ht hi hs).mpr (hp 2 (by omega))⟩
theorem low_least {x : Int64} {P : Nat → Prop} (h : ∀ i, jb x i = true ↔ P i) {L K : Nat} (hl : jb_low x L) (hk : mx_least P K) : K = L := mx_least_eq hk hl (fun i => (h i).symm)
theorem low_of {x : Int64} {P : Nat → Prop} (h : ∀ i, jb x i = true ↔ P i) {L : Nat} (hl : jb_low x L) : mx_least P L := mx_least_to hl h
