/-! MAKING ONE: what holds while terms are looked at -/
def mk_I (T : mx_T) (nn : Nat → Nat) (a b : Nat) (nn1 : Nat → Nat) (un1 : Int64) : Prop :=
  rk_un T un1 ∧ (∀ t, t < mx_n T → jb un1 t = false → mx_okA T nn1 t ∧ mx_okB T nn1 t) ∧ (∀ x y, x < mx_n T → y < mx_n T → nn x = nn y → nn1 x = nn1 y) ∧ nn1 a = nn1 b ∧
  ∀ R : Nat → Nat → Prop, mx_cl T R → (∀ x y, mx_r (mx_n T) nn x y → R x y) → R a b → ∀ x y, mx_r (mx_n T) nn1 x y → R x y
theorem mk_I.look {T : mx_T} (hw : mx_wf T) {nn : Nat → Nat} {a b : Nat} (ha : a < mx_n T) (hb : b < mx_n T) {nn1 nn2 nn3 : Nat → Nat} {un1 un0 un2 un3 : Int64} (h : mk_I T nn a b nn1 un1) {t : Nat} (hlow : jb_low un1 t) (e0 : un0 = un1 &&& (un1 - 1))
    (s1 : mx_step T (fun _ _ => False) nn1 un0 nn2 un2) (p1 : ∀ L, mx_least (mx_al T nn1 t) L → nn2 t = nn2 L) (s2 : mx_step T (fun _ _ => False) nn2 un2 nn3 un3)
    (p2 : mx_bu T t = true → ∀ L, mx_least (mx_in T nn2 t) L → ∀ j, j < 3 → mx_pr (mx_r (mx_n T) nn3) (mx_pl T j t) (mx_pl T j L)) : mk_I T nn a b nn3 un3 ∧ mx_mu T nn3 un3 + 1 ≤ mx_mu T nn1 un1 := by
  have ht : t < mx_n T := h.1 t hlow.1
  have s12 := s1.1.tr s2.1
  refine ⟨⟨s2.2.1, fun x hx hu => ?_, fun x y hx hy e => s12.1 x y hx hy (h.2.2.1 x y hx hy e), s12.1 a b ha hb h.2.2.2.1, fun R hR hs hab => ?_⟩, ?_⟩
  · by_cases q : x = t
    · subst q
      obtain ⟨L, hL, -⟩ := mx_least_ex (P := mx_al T nn1 x) (mx_al_self hw hx)
      refine mx_looked hw hx hL s1.1 (p1 L hL) s2.1 (fun hbt => ?_) hu
      obtain ⟨K, hK, -⟩ := mx_least_ex (P := mx_in T nn2 x) (i := x) ⟨hx, rfl, rfl⟩
      exact ⟨K, hK, p2 hbt K hK⟩
    · have h0 : jb un0 x = false := mx_unF s12.2.1 hu
      rw [e0, jb_clr hlow, decide_eq_true q, Bool.and_true] at h0
      exact s12.ok hw hx hu (h.2.1 x hx h0)
  · have r1 := h.2.2.2.2 R hR hs hab
    exact s2.2.2.2 R hR (s1.2.2.2 R hR r1 (fun _ _ q => q.elim)) (fun _ _ q => q.elim)
  · have m1 := s1.2.2.1
    have m2 := s2.2.2.1
    have m3 : mx_mu T nn1 un0 + 1 = mx_mu T nn1 un1 := by
      have := jb_cnt_clr hlow
      rw [← e0] at this
      unfold mx_mu
      omega
    omega
theorem mk_I.start {T : mx_T} (hw : mx_wf T) {nn nn1 : Nat → Nat} {a b : Nat} {un un1 : Int64} (hcl : mx_cl T (mx_r (mx_n T) nn)) (s : mx_step T (fun x y => some a = some x ∧ some b = some y) nn un nn1 un1) (e : nn1 a = nn1 b) : mk_I T nn a b nn1 un1 :=
  ⟨s.2.1, fun _ ht hu => s.1.ok hw ht hu (mx_okOf hcl ht), fun x y hx hy q => s.1.1 x y hx hy q, e, fun R hR hs hab => s.2.2.2 R hR hs (fun x y q => by obtain ⟨q1, q2⟩ := q; cases q1; cases q2; exact hab)⟩
theorem mk_mu {T : mx_T} (hn : mx_n T ≤ 60) {nn : Nat → Nat} {un : Int64} : mx_mu T nn un ≤ 3724 := by
  have h1 := mx_cnt_le (fun t => decide (nn t = t)) (mx_n T)
  have h2 := jb_cnt_le un
  unfold mx_mu
  omega
/-- the rows behind makeOne: the least closed names that hold the former, and a and b -/
def mk_P (T : mx_T) (nn : Nat → Nat) (a b : Nat) (nn2 : Nat → Nat) : Prop :=
  mx_cl T (mx_r (mx_n T) nn2) ∧ (∀ x y, x < mx_n T → y < mx_n T → nn x = nn y → nn2 x = nn2 y) ∧ nn2 a = nn2 b ∧
  ∀ R : Nat → Nat → Prop, mx_cl T R → (∀ x y, mx_r (mx_n T) nn x y → R x y) → R a b → ∀ x y, mx_r (mx_n T) nn2 x y → R x y
theorem mk_I.fin {T : mx_T} (hw : mx_wf T) {nn nn1 : Nat → Nat} {a b : Nat} {un1 : Int64} (h : mk_I T nn a b nn1 un1) (hz : un1 = 0) : mk_P T nn a b nn1 :=
  ⟨mx_fin hw (fun t ht => h.2.1 t ht (by rw [hz]; exact jb_0 t)), h.2.2.1, h.2.2.2.1, h.2.2.2.2⟩
