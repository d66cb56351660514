/-! THE REFERENCE's passes over all pairs -/
theorem tst_1 {x : Int64} {k : Nat} (hk : k < 64) : ((x >>> ((nI k).toInt64 &&& 63)) &&& 1) = 1 ↔ jb x k = true := by
  have h1 : ∀ i, jb (1 : Int64) i = decide (i = 0) := fun i => by
    show ((1 : Int64).toBitVec).getLsbD i = _
    rw [show (1 : Int64).toBitVec = 1#64 from rfl, BitVec.getLsbD_one]
    simp
  constructor
  · intro h
    cases q : jb x k with
    | true => rfl
    | false => rw [(jb_tst hk).mpr q] at h; exact absurd h (by decide)
  · intro h
    refine jb_ext fun i hi => ?_
    rw [jb_and, h1]
    by_cases e : i = 0
    · subst e
      rw [jb_shr hk (i := 0) (by omega)]
      simp [h]
    · simp [e]
theorem ix3 (x k : Nat) : (3 : Int32) * nI x + nI k = nI (3 * x + k) := by rw [show (3 : Int32) = nI 3 from rfl, pk_mul, nI_add]
def mx_rt0 (T : mx_T) (nn : Nat → Nat) : Nat := mx_cnt (fun t => decide (nn t = t)) (mx_n T)
def ok2 (T : mx_T) (nn : Nat → Nat) (x y : Nat) : Prop := mx_sg T x = mx_sg T y →
  ((∀ j, j < 3 → mx_pr (mx_r (mx_n T) nn) (mx_pl T j x) (mx_pl T j y)) → nn x = nn y) ∧ (nn x = nn y → mx_bu T x = true → ∀ j, j < 3 → mx_pr (mx_r (mx_n T) nn) (mx_pl T j x) (mx_pl T j y))
def pa_I (T : mx_T) (E : Nat → Nat → Prop) (r0 : Nat) (P : Nat → Nat → Prop) (nn : Nat → Nat) (le : Nat → Int32) (jo : Int32) : Prop :=
  md_L T nn le ∧ (∀ x y, E x y → mx_r (mx_n T) nn x y) ∧ (∀ R : Nat → Nat → Prop, mx_cl T R → (∀ x y, E x y → R x y) → ∀ x y, mx_r (mx_n T) nn x y → R x y) ∧
  (jo = 0 ∨ jo = 1) ∧ (jo = 1 → mx_rt0 T nn + 1 ≤ r0) ∧ mx_rt0 T nn ≤ r0 ∧ (jo = 0 → ∀ x y, P x y → ok2 T nn x y)
theorem pa_I.to {T : mx_T} {E : Nat → Nat → Prop} {r0 : Nat} {P P' : Nat → Nat → Prop} {nn : Nat → Nat} {le : Nat → Int32} {jo : Int32} (h : pa_I T E r0 P nn le jo) (k : jo = 0 → ∀ x y, P' x y → P x y ∨ ok2 T nn x y) : pa_I T E r0 P' nn le jo :=
  ⟨h.1, h.2.1, h.2.2.1, h.2.2.2.1, h.2.2.2.2.1, h.2.2.2.2.2.1, fun hj x y q => (k hj x y q).elim (h.2.2.2.2.2.2 hj x y) id⟩
theorem pa_join {T : mx_T} {E : Nat → Nat → Prop} {r0 : Nat} {P : Nat → Nat → Prop} {nn : Nat → Nat} {le le2 : Nat → Int32} {jo jo2 : Int32} (h : pa_I T E r0 P nn le jo) {a b : Nat}
    (hR : ∀ R : Nat → Nat → Prop, mx_cl T R → (∀ x y, mx_r (mx_n T) nn x y → R x y) → R a b) (hj : mj_Q T nn a b jo (le2, jo2)) :
    ∃ nn2 : Nat → Nat, pa_I T E r0 P nn2 le2 jo2 ∧ nn2 a = nn2 b ∧ (jo2 = 0 → nn2 = nn ∧ jo = 0) ∧ ∀ x y, x < mx_n T → y < mx_n T → nn x = nn y → nn2 x = nn2 y := by
  obtain ⟨h1, h2, h3, h4, h5, h6, h7⟩ := h
  obtain ⟨nn2, k1, k2, k3, k4, k5⟩ := hj
  have hs : ∀ R : Nat → Nat → Prop, mx_cl T R → (∀ x y, E x y → R x y) → ∀ x y, mx_r (mx_n T) nn2 x y → R x y := fun R hR0 hE => k4 R hR0 (h3 R hR0 hE) (hR R hR0 (h3 R hR0 hE))
  have hE2 : ∀ x y, E x y → mx_r (mx_n T) nn2 x y := fun x y q => ⟨(h2 x y q).1, (h2 x y q).2.1, k3 x y (h2 x y q).1 (h2 x y q).2.1 (h2 x y q).2.2⟩
  rcases k5 with ⟨rfl, e2, -⟩ | ⟨e2, e3⟩
  · have e2 : jo2 = jo := e2
    subst e2
    exact ⟨nn2, ⟨k1, hE2, hs, h4, h5, h6, h7⟩, k2, fun z => ⟨rfl, z⟩, k3⟩
  · have e2 : jo2 = 1 := e2
    subst e2
    have e4 : mx_rt0 T nn2 + 1 = mx_rt0 T nn := e3
    exact ⟨nn2, ⟨k1, hE2, hs, Or.inr rfl, fun _ => by omega, by omega, fun z => absurd z (by decide)⟩, k2, fun z => absurd z (by decide), k3⟩
theorem pa_fin {T : mx_T} (hw : mx_wf T) {nn : Nat → Nat} (h : ∀ x y, y < x → x < mx_n T → ok2 T nn x y) : mx_cl T (mx_r (mx_n T) nn) := by
  refine ⟨fun a ha => ⟨ha, ha, rfl⟩, mx_r.sym, mx_r.trans, fun a b ha hb hs hp => ⟨ha, hb, ?_⟩, fun a b ha hb hs hbu hr j hj => ?_⟩
  · rcases Nat.lt_trichotomy a b with q | q | q
    · exact (((h b a q hb) hs.symm).1 (fun j hj => mx_pr.sym mx_r.sym (hp j hj))).symm
    · rw [q]
    · exact ((h a b q ha) hs).1 hp
  · rcases Nat.lt_trichotomy a b with q | q | q
    · exact mx_pr.sym mx_r.sym (((h b a q hb) hs.symm).2 hr.2.2.symm (by rw [← hw.2.2 a b ha hb hs]; exact hbu) j hj)
    · subst q; exact mx_pr_self hw ha j
    · exact ((h a b q ha) hs).2 hr.2.2 hbu j hj
theorem md_id {T : mx_T} {le : Nat → Int32} (h : ∀ t, t < mx_n T → le t = nI t) : md_L T (fun t => t) le := ⟨h, fun t _ => ⟨Nat.le_refl t, rfl⟩⟩
/-- places of two terms of one sign, one by one -/
theorem pr_all {T : mx_T} (hw : mx_wf T) (hpf : mx_pf T) {nn : Nat → Nat} {x y : Nat} (hx : x < mx_n T) (hy : y < mx_n T) (hs : mx_sg T x = mx_sg T y) (h : ∀ j p q, j < mx_ar (mx_pl T) x → mx_pl T j x = some p → mx_pl T j y = some q → nn p = nn q) : ∀ j, j < 3 → mx_pr (mx_r (mx_n T) nn) (mx_pl T j x) (mx_pl T j y) := by
  intro j hj
  cases e1 : mx_pl T j x with
  | none => rw [(hw.2.1 x y j hx hy hs).mp e1]; trivial
  | some p =>
    cases e2 : mx_pl T j y with
    | none => rw [(hw.2.1 x y j hx hy hs).mpr e2] at e1; cases e1
    | some q =>
      refine ⟨Nat.lt_trans (hw.1 x j p hx e1) hx, Nat.lt_trans (hw.1 y j q hy e2) hy, h j p q ?_ e1 e2⟩
      rcases Nat.lt_or_ge j (mx_ar (mx_pl T) x) with z | z
      · exact z
      · rw [(mx_ar_iff hpf hx hj).mpr z] at e1; cases e1
