/-! FACTS, and what sets of them make one -/
/-- facts: how many; left; right; whether SAME -/
abbrev mx_F : Type := Nat × (Nat → Nat) × (Nat → Nat) × (Nat → Bool)
abbrev mx_m (F : mx_F) : Nat := F.1
abbrev mx_lf (F : mx_F) : Nat → Nat := F.2.1
abbrev mx_rt (F : mx_F) : Nat → Nat := F.2.2.1
abbrev mx_sm (F : mx_F) : Nat → Bool := F.2.2.2
def fk_ok (T : mx_T) (F : mx_F) (fl fr fs : Nat → Int32) : Prop :=
  mx_m F ≤ 40 ∧ ∀ f, f < mx_m F → fl f = nI (mx_lf F f) ∧ fr f = nI (mx_rt F f) ∧ mx_lf F f < mx_n T ∧ mx_rt F f < mx_n T ∧ fs f = (if mx_sm F f = true then 1 else 0)
/-- the SAMEs of a set, the first k facts alone -/
def mx_E (F : mx_F) (S : Nat → Bool) (k : Nat) (x y : Nat) : Prop := ∃ f, f < k ∧ mx_sm F f = true ∧ S f = true ∧ mx_lf F f = x ∧ mx_rt F f = y
theorem mx_lst.add {T : mx_T} {E : Nat → Nat → Prop} {nn nn2 : Nat → Nat} {a b : Nat} (h : mx_lst T E nn) (ha : a < mx_n T) (hb : b < mx_n T) (k : mk_P T nn a b nn2) : mx_lst T (fun x y => E x y ∨ (x = a ∧ y = b)) nn2 := by
  refine ⟨k.1, fun x y q => ?_, fun R hR hE => ?_⟩
  · rcases q with q | ⟨rfl, rfl⟩
    · have := h.2.1 x y q
      exact ⟨this.1, this.2.1, k.2.1 x y this.1 this.2.1 this.2.2⟩
    · exact ⟨ha, hb, k.2.2.1⟩
  · exact k.2.2.2 R hR (h.2.2 R hR (fun x y q => hE x y (Or.inl q))) (hE a b (Or.inr ⟨rfl, rfl⟩))
theorem mx_lst.to {T : mx_T} {E E' : Nat → Nat → Prop} {nn : Nat → Nat} (h : mx_lst T E nn) (e : ∀ x y, E x y ↔ E' x y) : mx_lst T E' nn :=
  ⟨h.1, fun x y q => h.2.1 x y ((e x y).mpr q), fun R hR hE => h.2.2 R hR (fun x y q => hE x y ((e x y).mp q))⟩
theorem mx_E_s {F : mx_F} {S : Nat → Bool} {k : Nat} (h1 : mx_sm F k = true) (h2 : S k = true) (x y : Nat) : (mx_E F S k x y ∨ (x = mx_lf F k ∧ y = mx_rt F k)) ↔ mx_E F S (k + 1) x y := by
  constructor
  · rintro (⟨f, a, b⟩ | ⟨rfl, rfl⟩)
    · exact ⟨f, by omega, b⟩
    · exact ⟨k, by omega, h1, h2, rfl, rfl⟩
  · rintro ⟨f, a, b, c, d, e⟩
    by_cases q : f = k
    · subst q; exact Or.inr ⟨d.symm, e.symm⟩
    · exact Or.inl ⟨f, by omega, b, c, d, e⟩
theorem mx_E_n {F : mx_F} {S : Nat → Bool} {k : Nat} (h : mx_sm F k = false ∨ S k = false) (x y : Nat) : mx_E F S k x y ↔ mx_E F S (k + 1) x y := by
  constructor
  · rintro ⟨f, a, b⟩; exact ⟨f, by omega, b⟩
  · rintro ⟨f, a, b, c, d⟩
    by_cases q : f = k
    · subst q
      rcases h with h | h
      · rw [h] at b; cases b
      · rw [h] at c; cases c
    · exact ⟨f, by omega, b, c, d⟩
/-- the same of the same is the same term -/
def mx_hc (T : mx_T) : Prop := ∀ t u, t < mx_n T → u < mx_n T → mx_sg T t = mx_sg T u → (∀ j, j < 3 → mx_pl T j t = mx_pl T j u) → t = u
theorem mx_lst_0 {T : mx_T} (hw : mx_wf T) (hc : mx_hc T) {F : mx_F} {S : Nat → Bool} : mx_lst T (mx_E F S 0) (fun t => t) := by
  have pr_eq : ∀ {x y : Option Nat}, mx_pr (mx_r (mx_n T) (fun t => t)) x y → x = y := by
    intro x y h
    cases x with
    | none => cases y with
      | none => rfl
      | some b => exact h.elim
    | some a => cases y with
      | none => exact h.elim
      | some b => exact congrArg some h.2.2
  refine ⟨⟨fun a ha => ⟨ha, ha, rfl⟩, mx_r.sym, mx_r.trans, fun a b ha hb hs hp => ⟨ha, hb, hc a b ha hb hs (fun j hj => pr_eq (hp j hj))⟩, ?_⟩, fun x y ⟨f, a, _⟩ => by omega, fun R hR _ x y q => ?_⟩
  · rintro a b ha hb - - ⟨-, -, e⟩ j -
    have e : a = b := e
    subst e
    exact mx_pr_self hw ha j
  · obtain ⟨h1, -, e⟩ := q
    have e : x = y := e
    subst e
    exact hR.1 x h1
/-- arrays that agree ahead of the count hold the same rows -/
theorem rk_congr {T : mx_T} {nn : Nat → Nat} {nm nm' : Nat → Int32} {me fu su tu be me' fu' su' tu' be' : Nat → Int64} {bd bd' : Nat → Int32} {mi : Int32} (h : rk_ok T nn nm me fu su tu be bd mi)
    (h1 : ∀ t, t < mx_n T → nm' t = nm t) (h2 : ∀ t, t < mx_n T → me' t = me t) (h3 : ∀ t, t < mx_n T → fu' t = fu t) (h4 : ∀ t, t < mx_n T → su' t = su t) (h5 : ∀ t, t < mx_n T → tu' t = tu t) (h6 : ∀ t, t < mx_n T → be' t = be t) (h7 : ∀ t, t < mx_n T → bd' t = bd t) : rk_ok T nn nm' me' fu' su' tu' be' bd' mi := by
  obtain ⟨a, b, mixed, r, c, d⟩ := h
  refine ⟨fun t ht => by rw [h1 t ht]; exact a t ht, b, mixed, ⟨r.1, ?_, ?_, ?_, r.2.2.2.2⟩, fun t ht => by rw [h7 t ht]; exact c t ht, d⟩
  · intro q hq e t
    show jb (me' q) t = true ↔ _
    rw [h2 q hq]; exact r.2.1 q hq e t
  · intro j q hj hq e t
    have z := r.2.2.1 j q hj hq e t
    rcases (show j = 0 ∨ j = 1 ∨ j = 2 by omega) with rfl | rfl | rfl
    · show jb (fu' q) t = true ↔ _
      rw [h3 q hq]; exact z
    · show jb (su' q) t = true ↔ _
      rw [h4 q hq]; exact z
    · show jb (tu' q) t = true ↔ _
      rw [h5 q hq]; exact z
  · intro q hq e t
    show jb (be' q) t = true ↔ _
    rw [h6 q hq]; exact r.2.2.2.1 q hq e t
theorem cpy_n {α : Type} (f g : Nat → α) (n : Nat) (t : Nat) (ht : t < n) : va_cpy f g 0 0 n t = f t := by
  rw [pk_cpy_in (Nat.zero_le _) (by omega)]
  congr 1
  omega
theorem rk_mi {T : mx_T} {nn : Nat → Nat} {nm : Nat → Int32} {me fu su tu be : Nat → Int64} {bd : Nat → Int32} {mi : Int32} (h : rk_ok T nn nm me fu su tu be bd mi) : mi = 0 ∨ mi = 1 := by
  obtain ⟨-, b, mixed, -, -, d⟩ := h
  rw [d]
  cases mixed <;> simp
