/-! THE REFERENCE: its arrays, and its joins -/
/-- each term's name is the least of its row -/
def lq_ok (n : Nat) (nn : Nat → Nat) : Prop := ∀ t, t < n → nn t ≤ t ∧ nn (nn t) = nn t
/-- places are filled from the first on -/
def mx_pf (T : mx_T) : Prop := ∀ t, t < mx_n T → (mx_pl T 0 t = none → mx_pl T 1 t = none) ∧ (mx_pl T 1 t = none → mx_pl T 2 t = none)
theorem mx_ar_iff {T : mx_T} (h : mx_pf T) {t j : Nat} (ht : t < mx_n T) (hj : j < 3) : mx_pl T j t = none ↔ mx_ar (mx_pl T) t ≤ j := by
  obtain ⟨h1, h2⟩ := h t ht
  unfold mx_ar
  rcases (show j = 0 ∨ j = 1 ∨ j = 2 by omega) with rfl | rfl | rfl <;> cases e0 : mx_pl T 0 t <;> cases e1 : mx_pl T 1 t <;> cases e2 : mx_pl T 2 t <;> simp_all
theorem mx_ar_le (pl : Nat → Nat → Option Nat) (t : Nat) : mx_ar pl t ≤ 3 := by
  unfold mx_ar
  split
  · omega
  · split
    · omega
    · split <;> omega
theorem mx_ar_some {T : mx_T} (h : mx_pf T) {t j : Nat} (ht : t < mx_n T) (hj : j < mx_ar (mx_pl T) t) : ∃ k, mx_pl T j t = some k := by
  have h3 := mx_ar_le (mx_pl T) t
  cases e : mx_pl T j t with
  | some k => exact ⟨k, rfl⟩
  | none => have := (mx_ar_iff h ht (by omega)).mp e; omega
theorem mx_ar_eq {T : mx_T} (hw : mx_wf T) {t u : Nat} (ht : t < mx_n T) (hu : u < mx_n T) (hs : mx_sg T t = mx_sg T u) : mx_ar (mx_pl T) t = mx_ar (mx_pl T) u := by
  have h0 := hw.2.1 t u 0 ht hu hs
  have h1 := hw.2.1 t u 1 ht hu hs
  have h2 := hw.2.1 t u 2 ht hu hs
  unfold mx_ar
  cases e0 : mx_pl T 0 t <;> cases f0 : mx_pl T 0 u <;> cases e1 : mx_pl T 1 t <;> cases f1 : mx_pl T 1 u <;> cases e2 : mx_pl T 2 t <;> cases f2 : mx_pl T 2 u <;> simp_all
/-- the reference's arrays hold the terms -/
def md_T (T : mx_T) (isb pls sg at_ : Nat → Int32) : Prop :=
  (∀ t, t < mx_n T → sg t = nI (mx_sg T t) ∧ mx_sg T t < 16 ∧ pls (mx_sg T t) = nI (mx_ar (mx_pl T) t) ∧ isb (mx_sg T t) = (if mx_bu T t = true then 1 else 0)) ∧
  ∀ t j, t < mx_n T → j < 3 → at_ (3 * t + j) = mx_enc (mx_pl T j t)
/-- the rows by least names -/
def md_L (T : mx_T) (nn : Nat → Nat) (le : Nat → Int32) : Prop := (∀ t, t < mx_n T → le t = nI (nn t)) ∧ lq_ok (mx_n T) nn
/-- what the reference's join does -/
def mj_Q (T : mx_T) (nn : Nat → Nat) (a b : Nat) (jo : Int32) (u : (Nat → Int32) × Int32) : Prop :=
  ∃ nn2 : Nat → Nat, md_L T nn2 u.1 ∧ nn2 a = nn2 b ∧ (∀ x y, x < mx_n T → y < mx_n T → nn x = nn y → nn2 x = nn2 y) ∧
    (∀ R : Nat → Nat → Prop, mx_cl T R → (∀ x y, mx_r (mx_n T) nn x y → R x y) → R a b → ∀ x y, mx_r (mx_n T) nn2 x y → R x y) ∧
    ((nn2 = nn ∧ u.2 = jo ∧ nn a = nn b) ∨ (u.2 = 1 ∧ mx_cnt (fun t => decide (nn2 t = t)) (mx_n T) + 1 = mx_cnt (fun t => decide (nn t = t)) (mx_n T)))
theorem mj_of {T : mx_T} {nn : Nat → Nat} {le : Nat → Int32} (h : md_L T nn le) {a b lo hi : Nat} (ha : a < mx_n T) (hb : b < mx_n T) (hk : (lo = nn a ∧ hi = nn b) ∨ (lo = nn b ∧ hi = nn a)) (hlt : lo < hi) {le2 : Nat → Int32} (he : ∀ t, t < mx_n T → le2 t = if nn t = nn a ∨ nn t = nn b then nI lo else le t) {jo : Int32} : mj_Q T nn a b jo (le2, 1) := by
  have hA := h.2 a ha
  have hB := h.2 b hb
  obtain ⟨l1, l2, h1, h2⟩ : lo < mx_n T ∧ nn lo = lo ∧ hi < mx_n T ∧ nn hi = hi := by
    rcases hk with ⟨rfl, rfl⟩ | ⟨rfl, rfl⟩
    · exact ⟨by omega, hA.2, by omega, hB.2⟩
    · exact ⟨by omega, hB.2, by omega, hA.2⟩
  have hor : ∀ t, (nn t = nn a ∨ nn t = nn b) ↔ (nn t = lo ∨ nn t = hi) := by
    intro t
    rcases hk with ⟨rfl, rfl⟩ | ⟨rfl, rfl⟩
    · exact Iff.rfl
    · exact Or.comm
  have hN : ∀ t, t < mx_n T → (fun t => if nn t = hi then lo else nn t) t = if nn t = hi then lo else nn t := fun _ _ => rfl
  refine ⟨fun t => if nn t = hi then lo else nn t, ⟨fun t ht => ?_, fun t ht => ?_⟩, ?_, fun x y hx hy e => ?_, fun R hR hs hab => ?_, Or.inr ⟨rfl, mx_join_cnt (n := mx_n T) l1 h1 l2 h2 (by omega) hN⟩⟩
  · show le2 t = nI (if nn t = hi then lo else nn t)
    rw [he t ht]
    by_cases q : nn t = hi
    · rw [if_pos ((hor t).mpr (Or.inr q)), if_pos q]
    · rw [if_neg q]
      by_cases z : nn t = lo
      · rw [if_pos ((hor t).mpr (Or.inl z)), z]
      · rw [if_neg (fun k => ((hor t).mp k).elim z q)]
        exact h.1 t ht
  · have ht2 := h.2 t ht
    show (if nn t = hi then lo else nn t) ≤ t ∧ (if nn (if nn t = hi then lo else nn t) = hi then lo else nn (if nn t = hi then lo else nn t)) = (if nn t = hi then lo else nn t)
    by_cases q : nn t = hi
    · rw [if_pos q, l2, if_neg (show ¬ lo = hi by omega)]
      exact ⟨by omega, rfl⟩
    · rw [if_neg q, ht2.2, if_neg q]
      exact ⟨ht2.1, rfl⟩
  · show (if nn a = hi then lo else nn a) = (if nn b = hi then lo else nn b)
    rcases hk with ⟨e1, e2⟩ | ⟨e1, e2⟩
    · rw [← e1, ← e2, if_neg (show ¬ lo = hi by omega), if_pos rfl]
    · rw [← e1, ← e2, if_neg (show ¬ lo = hi by omega), if_pos rfl]
  · show (if nn x = hi then lo else nn x) = (if nn y = hi then lo else nn y)
    rw [e]
  · rcases hk with ⟨e1, e2⟩ | ⟨e1, e2⟩
    · exact mx_join_in (a := a) (b := b) hR hs ha hb hab e1.symm e2.symm hN
    · exact mx_join_in (a := b) (b := a) hR hs hb ha (hR.2.1 _ _ hab) e1.symm e2.symm hN
theorem mj_same {T : mx_T} {nn : Nat → Nat} {le : Nat → Int32} (h : md_L T nn le) {a b : Nat} (e : nn a = nn b) {jo : Int32} : mj_Q T nn a b jo (le, jo) :=
  ⟨nn, h, e, fun _ _ _ _ q => q, fun _ _ hs _ => hs, Or.inl ⟨rfl, rfl, e⟩⟩
