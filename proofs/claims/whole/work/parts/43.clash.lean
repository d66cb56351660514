/-! CLASHES: clearing rows, names that are the same up to naming, what is reached -/
def cm_I (T : mx_T) (nn : Nat → Nat) (C : Int64) (t : Nat) (cd : Int64) : Prop :=
  (∀ x, jb C x = true → jb cd x = true) ∧ ((∀ x, jb C x = true → x < mx_n T ∧ mx_clr T nn x) → ∀ x, jb cd x = true → x < mx_n T ∧ mx_clr T nn x) ∧
  ∀ u, u < t → nn u = u → (∀ k, mx_bel T nn u k → jb C k = true) → ∀ x, x < mx_n T → nn x = u → jb cd x = true
theorem cm_0 (T : mx_T) (nn : Nat → Nat) (C : Int64) : cm_I T nn C 0 C := ⟨fun _ h => h, fun h => h, fun u hu => absurd hu (Nat.not_lt_zero u)⟩
theorem cm_skip {T : mx_T} {nn : Nat → Nat} {C cd : Int64} {t : Nat} (h : cm_I T nn C t cd) (q : ¬ nn t = t) : cm_I T nn C (t + 1) cd :=
  ⟨h.1, h.2.1, fun u hu e => by
    by_cases z : u = t
    · subst z; exact absurd e q
    · exact h.2.2 u (by omega) e⟩
theorem bel_B {T : mx_T} {nn : Nat → Nat} {nm : Nat → Int32} {me fu su tu be : Nat → Int64} {bd : Nat → Int32} {mi : Int32} (h : rk_ok T nn nm me fu su tu be bd mi) {t : Nat} (ht : t < mx_n T) (e : nn t = t) (k : Nat) : jb (be t) k = true ↔ mx_bel T nn t k := by
  obtain ⟨-, b, mixed, r, -⟩ := h
  rw [show jb (be t) k = (fun r t => jb (be r) t) t k from rfl, r.2.2.2.1 t ht e k]
  unfold mx_bel
  rw [e]
theorem cm_no {T : mx_T} {nn : Nat → Nat} {nm : Nat → Int32} {me fu su tu be : Nat → Int64} {bd : Nat → Int32} {mi : Int32} (hr : rk_ok T nn nm me fu su tu be bd mi) {C cd : Int64} {t : Nat} (ht : t < mx_n T) (h : cm_I T nn C t cd) (e : nn t = t) (q : ¬ (be t &&& (cd ^^^ (-1))) = 0) : cm_I T nn C (t + 1) cd :=
  ⟨h.1, h.2.1, fun u hu e2 hk => by
    by_cases z : u = t
    · subst z
      exact absurd (jb_sub.mpr (fun i hi => h.1 i (hk i ((bel_B hr ht e i).mp hi)))) q
    · exact h.2.2 u (by omega) e2 hk⟩
theorem cm_yes {T : mx_T} {nn : Nat → Nat} {nm : Nat → Int32} {me fu su tu be : Nat → Int64} {bd : Nat → Int32} {mi : Int32} (hr : rk_ok T nn nm me fu su tu be bd mi) {C cd : Int64} {t : Nat} (ht : t < mx_n T) (h : cm_I T nn C t cd) (e : nn t = t) (q : (be t &&& (cd ^^^ (-1))) = 0) : cm_I T nn C (t + 1) (cd ||| me t) := by
  have hq := jb_sub.mp q
  have hm : ∀ x, jb (me t) x = true ↔ x < mx_n T ∧ nn x = t := by
    obtain ⟨-, b, mixed, r, -⟩ := hr
    exact r.2.1 t ht e
  refine ⟨fun x hx => by rw [jb_or, h.1 x hx, Bool.true_or], fun hc x hx => ?_, fun u hu e2 hk x hx ex => ?_⟩
  · rw [jb_or, Bool.or_eq_true] at hx
    rcases hx with hx | hx
    · exact h.2.1 hc x hx
    · obtain ⟨h1, h2⟩ := (hm x).mp hx
      refine ⟨h1, mx_clr_step h1 (fun k hk => ?_)⟩
      have : mx_bel T nn t k := by
        obtain ⟨u, j, a1, a2, a3⟩ := hk
        exact ⟨u, j, a1, by rw [a2, h2, e], a3⟩
      exact (h.2.1 hc k (hq k ((bel_B hr ht e k).mpr this))).2
  · rw [jb_or, Bool.or_eq_true]
    by_cases z : u = t
    · subst z
      exact Or.inr ((hm x).mpr ⟨hx, ex⟩)
    · exact Or.inl (h.2.2 u (by omega) e2 hk x hx ex)
/-- nothing more is cleared: the rest never is -/
theorem cm_stuck {T : mx_T} {nn : Nat → Nat} (hroot : ∀ t, t < mx_n T → nn t < mx_n T ∧ nn (nn t) = nn t) {C : Int64} (h : cm_I T nn C (mx_n T) C) {x : Nat} (hx : mx_clr T nn x) : jb C x = true := by
  refine mx_clr_stuck (C := jb C) (fun t ht hk => ?_) hx
  refine h.2.2 (nn t) (hroot t ht).1 (hroot t ht).2 (fun k q => hk k ?_) t ht rfl
  obtain ⟨u, j, a1, a2, a3⟩ := q
  exact ⟨u, j, a1, by rw [a2, (hroot t ht).2], a3⟩
theorem jb_grow {a b : Int64} (h : ∀ x, jb a x = true → jb b x = true) (ne : ¬ b = a) : jb_cnt a + 1 ≤ jb_cnt b := by
  obtain ⟨x, hx, h1, h2⟩ : ∃ x, x < 64 ∧ jb b x = true ∧ jb a x = false := by
    refine Classical.byContradiction fun hn => ne (jb_ext fun i hi => ?_)
    cases hb : jb b i with
    | false => exact (ts_nt (fun q => by rw [h i q] at hb; cases hb)).symm
    | true =>
      cases ha : jb a i with
      | true => rfl
      | false => exact absurd ⟨i, hi, hb, ha⟩ hn
  have h3 := mx_cnt_drop (p := jb b) (q := fun i => (jb b i && decide (i ≠ x))) (g := x) (n := 64) (fun _ _ => rfl) hx h1
  have h4 : jb_cnt a ≤ mx_cnt (fun i => (jb b i && decide (i ≠ x))) 64 := mx_cnt_mono (fun i _ hi => by
    rw [Bool.and_eq_true]
    refine ⟨h i hi, decide_eq_true (fun z => ?_)⟩
    rw [z, h2] at hi; cases hi)
  unfold jb_cnt at h4 ⊢
  omega
/-- the same rows under other names -/
def mx_sim (n : Nat) (nn nn' : Nat → Nat) : Prop := ∀ x y, x < n → y < n → (nn x = nn y ↔ nn' x = nn' y)
theorem mx_lst.sim {T : mx_T} {E : Nat → Nat → Prop} {nn nn' : Nat → Nat} (h : mx_lst T E nn) (h' : mx_lst T E nn') : mx_sim (mx_n T) nn nn' := fun x y hx hy => (h.one hx hy).trans (h'.one hx hy).symm
theorem mx_clr_sim {T : mx_T} {nn nn' : Nat → Nat} (h : mx_sim (mx_n T) nn nn') {x : Nat} (hx : mx_clr T nn x) : mx_clr T nn' x := fun S hS =>
  hx S (fun t ht hk => hS t ht (fun u j k hu e => hk u j k hu ((h u t hu ht).mpr e)))
theorem mx_sim.sym {n : Nat} {nn nn' : Nat → Nat} (h : mx_sim n nn nn') : mx_sim n nn' nn := fun x y hx hy => (h x y hx hy).symm
/-- two builders in one row; two that are not one are; a term below itself -/
def mx_cA (T : mx_T) (nn : Nat → Nat) : Prop := ∃ t u, t < mx_n T ∧ u < mx_n T ∧ nn t = nn u ∧ mx_bu T t = true ∧ mx_bu T u = true ∧ mx_sg T t ≠ mx_sg T u
def mx_cB (F : mx_F) (S : Nat → Bool) (nn : Nat → Nat) : Prop := ∃ f, f < mx_m F ∧ mx_sm F f = false ∧ S f = true ∧ nn (mx_lf F f) = nn (mx_rt F f)
def mx_cC (T : mx_T) (nn : Nat → Nat) : Prop := ∃ x, x < mx_n T ∧ ¬ mx_clr T nn x
def mx_clash (T : mx_T) (F : mx_F) (S : Nat → Bool) (nn : Nat → Nat) : Prop := mx_cA T nn ∨ mx_cB F S nn ∨ mx_cC T nn
/-- facts are of terms -/
def mx_fw (T : mx_T) (F : mx_F) : Prop := ∀ f, f < mx_m F → mx_lf F f < mx_n T ∧ mx_rt F f < mx_n T
/-- what is asked: a clash, or that two are one -/
def rq_P (T : mx_T) (F : mx_F) (q : Option (Nat × Nat)) (S : Nat → Bool) (nn : Nat → Nat) : Prop := match q with
  | none => mx_clash T F S nn
  | some (a, b) => nn a = nn b
def rq_in (T : mx_T) (q : Option (Nat × Nat)) : Prop := ∀ a b, q = some (a, b) → a < mx_n T ∧ b < mx_n T
theorem mx_clash_sim {T : mx_T} {F : mx_F} (hf : mx_fw T F) {S : Nat → Bool} {nn nn' : Nat → Nat} (h : mx_sim (mx_n T) nn nn') (k : mx_clash T F S nn) : mx_clash T F S nn' := by
  rcases k with ⟨t, u, ht, hu, e, r⟩ | ⟨f, hm, h1, h2, e⟩ | ⟨x, hx, hn⟩
  · exact Or.inl ⟨t, u, ht, hu, (h t u ht hu).mp e, r⟩
  · exact Or.inr (Or.inl ⟨f, hm, h1, h2, (h _ _ (hf f hm).1 (hf f hm).2).mp e⟩)
  · exact Or.inr (Or.inr ⟨x, hx, fun q => hn (mx_clr_sim h.sym q)⟩)
theorem rq_sim {T : mx_T} {F : mx_F} (hf : mx_fw T F) {q : Option (Nat × Nat)} (hq : rq_in T q) {S : Nat → Bool} {nn nn' : Nat → Nat} (h : mx_sim (mx_n T) nn nn') (k : rq_P T F q S nn) : rq_P T F q S nn' := by
  cases q with
  | none => exact mx_clash_sim hf h k
  | some p =>
    obtain ⟨a, b⟩ := p
    exact (h a b (hq a b rfl).1 (hq a b rfl).2).mp k
/-- names that E makes: the least one with each -/
noncomputable def mx_nn (T : mx_T) (E : Nat → Nat → Prop) (x : Nat) : Nat := @dite _ (∃ k, mx_least (fun y => y < mx_n T ∧ mx_one T E x y) k) (Classical.propDecidable _) (fun h => h.choose) (fun _ => x)
theorem mx_one_cl {T : mx_T} (hw : mx_wf T) (E : Nat → Nat → Prop) : mx_cl T (mx_one T E) := by
  refine ⟨fun a ha R hR _ => hR.1 a ha, fun a b h R hR hE => hR.2.1 _ _ (h R hR hE), fun a b c h k R hR hE => hR.2.2.1 _ _ _ (h R hR hE) (k R hR hE), ?_, ?_⟩
  · intro a b ha hb hs hp R hR hE
    exact hR.2.2.2.1 a b ha hb hs (fun j hj => mx_pr.mono (fun x y q => q R hR hE) (hp j hj))
  · intro a b ha hb hs hbu h j hj
    cases h1 : mx_pl T j a with
    | none =>
      rw [(hw.2.1 a b j ha hb hs).mp h1]
      trivial
    | some x =>
      cases h2 : mx_pl T j b with
      | none => rw [(hw.2.1 a b j ha hb hs).mpr h2] at h1; cases h1
      | some y =>
        intro R hR hE
        have := hR.2.2.2.2 a b ha hb hs hbu (h R hR hE) j hj
        rw [h1, h2] at this
        exact this
theorem mx_nn_lst {T : mx_T} (hw : mx_wf T) {E : Nat → Nat → Prop} (hE : ∀ x y, E x y → x < mx_n T ∧ y < mx_n T) : mx_lst T E (mx_nn T E) := by
  have hcl := mx_one_cl hw E
  have hsp : ∀ x, x < mx_n T → mx_least (fun y => y < mx_n T ∧ mx_one T E x y) (mx_nn T E x) := by
    intro x hx
    have hex : ∃ k, mx_least (fun y => y < mx_n T ∧ mx_one T E x y) k := by
      obtain ⟨k, hk, -⟩ := mx_least_ex (P := fun y => y < mx_n T ∧ mx_one T E x y) (i := x) ⟨hx, hcl.1 x hx⟩
      exact ⟨k, hk⟩
    unfold mx_nn
    rw [dif_pos hex]
    exact hex.choose_spec
  have key : ∀ x y, x < mx_n T → y < mx_n T → (mx_nn T E x = mx_nn T E y ↔ mx_one T E x y) := by
    intro x y hx hy
    constructor
    · intro e
      have h1 := (hsp x hx).1.2
      have h2 := (hsp y hy).1.2
      rw [e] at h1
      exact hcl.2.2.1 _ _ _ h1 (hcl.2.1 _ _ h2)
    · intro h
      refine mx_least_eq (hsp x hx) (hsp y hy) (fun i => ?_)
      exact ⟨fun q => ⟨q.1, hcl.2.2.1 _ _ _ (hcl.2.1 _ _ h) q.2⟩, fun q => ⟨q.1, hcl.2.2.1 _ _ _ h q.2⟩⟩
  have hpr : ∀ {x y : Option Nat}, (∀ a, x = some a → a < mx_n T) → (∀ b, y = some b → b < mx_n T) → (mx_pr (mx_r (mx_n T) (mx_nn T E)) x y ↔ mx_pr (mx_one T E) x y) := by
    intro x y hx hy
    cases x with
    | none => cases y <;> exact Iff.rfl
    | some a =>
      cases y with
      | none => exact Iff.rfl
      | some b => exact ⟨fun q => (key a b q.1 q.2.1).mp q.2.2, fun q => ⟨hx a rfl, hy b rfl, (key a b (hx a rfl) (hy b rfl)).mpr q⟩⟩
  have hpl : ∀ t j a, t < mx_n T → mx_pl T j t = some a → a < mx_n T := fun t j a ht h => Nat.lt_trans (hw.1 t j a ht h) ht
  refine ⟨⟨fun a ha => ⟨ha, ha, rfl⟩, mx_r.sym, mx_r.trans, ?_, ?_⟩, fun x y h => ?_, fun R hR hE2 a b h => ?_⟩
  · intro a b ha hb hs hp
    exact ⟨ha, hb, (key a b ha hb).mpr (hcl.2.2.2.1 a b ha hb hs (fun j hj => (hpr (fun x => hpl a j x ha) (fun x => hpl b j x hb)).mp (hp j hj)))⟩
  · intro a b ha hb hs hbu h j hj
    exact (hpr (fun x => hpl a j x ha) (fun x => hpl b j x hb)).mpr (hcl.2.2.2.2 a b ha hb hs hbu ((key a b ha hb).mp h.2.2) j hj)
  · exact ⟨(hE x y h).1, (hE x y h).2, (key x y (hE x y h).1 (hE x y h).2).mpr (fun R hR hE2 => hE2 x y h)⟩
  · exact (key a b h.1 h.2.1).mp h.2.2 R hR hE2
theorem mx_E_in {T : mx_T} {F : mx_F} (hf : mx_fw T F) {S : Nat → Bool} (x y : Nat) (h : mx_E F S (mx_m F) x y) : x < mx_n T ∧ y < mx_n T := by
  obtain ⟨f, hm, -, -, rfl, rfl⟩ := h
  exact hf f hm
/-- what a set of facts reaches -/
def rq_R (T : mx_T) (F : mx_F) (q : Option (Nat × Nat)) (S : Nat → Bool) : Prop := rq_P T F q S (mx_nn T (mx_E F S (mx_m F)))
theorem rq_iff {T : mx_T} (hw : mx_wf T) {F : mx_F} (hf : mx_fw T F) {q : Option (Nat × Nat)} (hq : rq_in T q) {S : Nat → Bool} {nn : Nat → Nat} (h : mx_lst T (mx_E F S (mx_m F)) nn) : rq_P T F q S nn ↔ rq_R T F q S := by
  have h2 := mx_nn_lst hw (mx_E_in hf (S := S))
  exact ⟨rq_sim hf hq (h.sim h2), rq_sim hf hq (h2.sim h)⟩
theorem mx_clr_mono {T : mx_T} {nn nn' : Nat → Nat} (h : ∀ x y, x < mx_n T → y < mx_n T → nn x = nn y → nn' x = nn' y) {x : Nat} (hx : mx_clr T nn' x) : mx_clr T nn x := fun S hS =>
  hx S (fun t ht hk => hS t ht (fun u j k hu e => hk u j k hu (h u t hu ht e)))
theorem rq_mono {T : mx_T} (hw : mx_wf T) {F : mx_F} (hf : mx_fw T F) {q : Option (Nat × Nat)} (hq : rq_in T q) : mx_mono (rq_R T F q) := by
  intro S S' hS h
  have h1 := mx_nn_lst hw (mx_E_in hf (S := S))
  have h2 := mx_nn_lst hw (mx_E_in hf (S := S'))
  have hmo : ∀ x y, x < mx_n T → y < mx_n T → mx_nn T (mx_E F S (mx_m F)) x = mx_nn T (mx_E F S (mx_m F)) y → mx_nn T (mx_E F S' (mx_m F)) x = mx_nn T (mx_E F S' (mx_m F)) y := by
    intro x y hx hy e
    exact (h1.2.2 _ h2.1 (fun a b ⟨f, a1, a2, a3, a4⟩ => h2.2.1 a b ⟨f, a1, a2, hS f a3, a4⟩) x y ⟨hx, hy, e⟩).2.2
  unfold rq_R at h ⊢
  cases q with
  | none =>
    rcases h with ⟨t, u, ht, hu, e, r⟩ | ⟨f, hm, a1, a2, e⟩ | ⟨x, hx, hn⟩
    · exact Or.inl ⟨t, u, ht, hu, hmo t u ht hu e, r⟩
    · exact Or.inr (Or.inl ⟨f, hm, a1, hS f a2, hmo _ _ (hf f hm).1 (hf f hm).2 e⟩)
    · exact Or.inr (Or.inr ⟨x, hx, fun z => hn (mx_clr_mono hmo z)⟩)
  | some p =>
    obtain ⟨a, b⟩ := p
    exact hmo a b (hq a b rfl).1 (hq a b rfl).2 h
