/-! AHEAD: kept facts and the first few -/
def st_of (kept : Int64) (e : Nat) : Nat → Bool := fun g => jb kept g || decide (g < e)
theorem st_0 (kept : Int64) : st_of kept 0 = jb kept := by
  funext g
  simp [st_of]
theorem st_s {kept put : Int64} {f : Nat} (hf : f < 64) (h : jb put = st_of kept f) : jb (put ||| ((1 : Int64) <<< ((nI f).toInt64 &&& 63))) = st_of kept (f + 1) := by
  funext g
  rw [jb_or, h, jb_one hf]
  unfold st_of
  rw [Bool.or_assoc]
  congr 1
  rw [← Bool.decide_or]
  exact decide_eq_decide.mpr (by omega)
theorem mx_E_add {F : mx_F} {kept : Int64} {f : Nat} (hf : f < mx_m F) (hs : mx_sm F f = true) (x y : Nat) : (mx_E F (st_of kept f) (mx_m F) x y ∨ (x = mx_lf F f ∧ y = mx_rt F f)) ↔ mx_E F (st_of kept (f + 1)) (mx_m F) x y := by
  constructor
  · rintro (⟨g, a, b, c, d⟩ | ⟨rfl, rfl⟩)
    · refine ⟨g, a, b, ?_, d⟩
      simp only [st_of, Bool.or_eq_true, decide_eq_true_eq] at c ⊢
      exact c.imp id (fun z => by omega)
    · exact ⟨f, hf, hs, by simp [st_of], rfl, rfl⟩
  · rintro ⟨g, a, b, c, d, e⟩
    by_cases z : g = f
    · subst z; exact Or.inr ⟨d.symm, e.symm⟩
    · refine Or.inl ⟨g, a, b, ?_, d, e⟩
      simp only [st_of, Bool.or_eq_true, decide_eq_true_eq] at c ⊢
      exact c.imp id (fun z => by omega)
theorem mx_E_not {F : mx_F} {kept : Int64} {f : Nat} (hs : mx_sm F f = false) (x y : Nat) : mx_E F (st_of kept f) (mx_m F) x y ↔ mx_E F (st_of kept (f + 1)) (mx_m F) x y := by
  constructor
  · rintro ⟨g, a, b, c, d⟩
    refine ⟨g, a, b, ?_, d⟩
    simp only [st_of, Bool.or_eq_true, decide_eq_true_eq] at c ⊢
    exact c.imp id (fun z => by omega)
  · rintro ⟨g, a, b, c, d⟩
    by_cases z : g = f
    · subst z; rw [hs] at b; cases b
    · refine ⟨g, a, b, ?_, d⟩
      simp only [st_of, Bool.or_eq_true, decide_eq_true_eq] at c ⊢
      exact c.imp id (fun z => by omega)
/-- a SAME that changes nothing reaches nothing more -/
theorem rq_idle {T : mx_T} {F : mx_F} (hf0 : mx_fw T F) {q : Option (Nat × Nat)} (hq : rq_in T q) {kept : Int64} {f : Nat} (hs : mx_sm F f = true) {nn nn2 : Nat → Nat} (hcl : mx_cl T (mx_r (mx_n T) nn)) {a b : Nat} (ha : a < mx_n T) (hb : b < mx_n T) (hab : nn a = nn b) (k : mk_P T nn a b nn2) (h : rq_P T F q (st_of kept (f + 1)) nn2) : rq_P T F q (st_of kept f) nn := by
  have hsim : mx_sim (mx_n T) nn2 nn := fun x y hx hy => ⟨fun e => (k.2.2.2 _ hcl (fun _ _ z => z) ⟨ha, hb, hab⟩ x y ⟨hx, hy, e⟩).2.2, fun e => k.2.1 x y hx hy e⟩
  have h1 := rq_sim hf0 hq hsim h
  cases q with
  | some p => exact h1
  | none =>
    rcases h1 with h1 | ⟨g, a1, a2, a3, a4⟩ | h1
    · exact Or.inl h1
    · refine Or.inr (Or.inl ⟨g, a1, a2, ?_, a4⟩)
      have : g ≠ f := fun z => by rw [z, hs] at a2; cases a2
      simp only [st_of, Bool.or_eq_true, decide_eq_true_eq] at a3 ⊢
      exact a3.imp id (fun z => by omega)
    · exact Or.inr (Or.inr h1)
/-- what fewestAhead answers -/
def fa_P (P : (Nat → Bool) → Prop) (kept : Int64) (ahead : Nat) (r : Int32) : Prop :=
  (∃ e, e ≤ ahead ∧ r = nI e ∧ P (st_of kept e) ∧ ∀ e2, e2 < e → ¬ P (st_of kept e2)) ∨ (r = -1 ∧ ∀ e, e ≤ ahead → ¬ P (st_of kept e))
/-- what reasonOf answers -/
def re_P (P : (Nat → Bool) → Prop) (m : Nat) (r : Int64) : Prop :=
  (r = -1 ∧ ¬ P (fun g => decide (g < m))) ∨ (P (fun g => decide (g < m)) ∧ jb r = mx_kp P m m)
/-- while reasonOf goes on -/
def re_I (P : (Nat → Bool) → Prop) (m : Nat) (kept : Int64) (ahead way : Nat) : Prop :=
  way + ahead ≤ m ∧ jb kept = mx_kp P m (m - ahead) ∧ (way = 0 → ahead = m) ∧ (0 < way → P (st_of kept ahead))
theorem re_0 (P : (Nat → Bool) → Prop) (m : Nat) : re_I P m 0 m 0 := ⟨by omega, by
  rw [Nat.sub_self]
  funext g
  exact jb_0 g, fun _ => rfl, fun h => absurd h (Nat.lt_irrefl 0)⟩
theorem re_all {P : (Nat → Bool) → Prop} {m : Nat} {kept : Int64} {ahead way : Nat} (h : re_I P m kept ahead way) (hw : way = 0) : st_of kept ahead = fun g => decide (g < m) := by
  have h1 := h.2.2.1 hw
  have h2 := h.2.1
  rw [h1, Nat.sub_self] at h2
  rw [h1]
  funext g
  show (jb kept g || decide (g < m)) = _
  rw [h2]
  rfl
theorem re_pall {P : (Nat → Bool) → Prop} (hm : mx_mono P) {m : Nat} {kept : Int64} {ahead way : Nat} (h : re_I P m kept ahead way) {e : Nat} (he : e ≤ ahead) (hkm : ∀ g, jb kept g = true → g < m) (k : P (st_of kept e)) : P (fun g => decide (g < m)) := by
  refine hm _ _ (fun g hg => ?_) k
  have := h.1
  simp only [st_of, Bool.or_eq_true, decide_eq_true_eq] at hg ⊢
  rcases hg with q | q
  · exact hkm g q
  · omega
theorem mx_kp_lt (P : (Nat → Bool) → Prop) (m : Nat) : ∀ i, i ≤ m → ∀ g, mx_kp P m i g = true → g < m
  | 0, _, g, h => by cases h
  | i + 1, hi, g, h => by
    have ih := mx_kp_lt P m i (by omega) g
    have h : (@ite _ (P (fun g => mx_kp P m i g || decide (g < m - 1 - i))) (Classical.propDecidable _) (mx_kp P m i) (fun g => mx_kp P m i g || decide (g = m - 1 - i))) g = true := h
    by_cases q : P (fun g => mx_kp P m i g || decide (g < m - 1 - i))
    · rw [if_pos q] at h; exact ih h
    · rw [if_neg q] at h
      simp only [Bool.or_eq_true, decide_eq_true_eq] at h
      rcases h with h | h
      · exact ih h
      · omega
theorem re_end {P : (Nat → Bool) → Prop} (hm : mx_mono P) {m : Nat} {kept : Int64} {ahead way : Nat} (h : re_I P m kept ahead way) (k : P (st_of kept 0)) : re_P P m kept := by
  have h1 := h.1
  have hkm : ∀ g, jb kept g = true → g < m := fun g hg => by rw [h.2.1] at hg; exact mx_kp_lt P m _ (by omega) g hg
  refine Or.inr ⟨re_pall hm h (Nat.zero_le _) hkm k, ?_⟩
  have := mx_kp_skip hm (c := m) (e := 0) (K := jb kept) k ahead ahead (by omega) (by omega) h.2.1.symm
  exact this.symm
theorem re_none {P : (Nat → Bool) → Prop} {m : Nat} {kept : Int64} {ahead way : Nat} (h : re_I P m kept ahead way) (k : ∀ e, e ≤ ahead → ¬ P (st_of kept e)) : re_P P m (-1) := by
  rcases Nat.eq_zero_or_pos way with q | q
  · exact Or.inl ⟨rfl, by rw [← re_all h q]; exact k ahead (Nat.le_refl _)⟩
  · exact absurd (h.2.2.2 q) (k ahead (Nat.le_refl _))
theorem re_step {P : (Nat → Bool) → Prop} (hm : mx_mono P) {m : Nat} (h40 : m ≤ 40) {kept : Int64} {ahead way e : Nat} (h : re_I P m kept ahead way) (he : e + 1 ≤ ahead) (k : P (st_of kept (e + 1))) (kn : ∀ e2, e2 < e + 1 → ¬ P (st_of kept e2)) : re_I P m (kept ||| ((1 : Int64) <<< ((nI e).toInt64 &&& 63))) e (way + 1) := by
  have h1 := h.1
  have hs : mx_kp P m (m - (e + 1)) = jb kept := mx_kp_skip hm (c := m) (e := e + 1) (K := jb kept) k (ahead - (e + 1)) ahead (by omega) (by omega) h.2.1.symm
  have hk := mx_kp_in (P := P) (c := m) (a := e) (by omega) (by rw [hs]; exact kn e (by omega))
  refine ⟨by omega, ?_, fun z => by omega, fun _ => ?_⟩
  · rw [hk, hs]
    funext g
    rw [jb_or, jb_one (by omega)]
  · refine Eq.mp (congrArg P ?_) k
    funext g
    show (jb kept g || decide (g < e + 1)) = (jb (kept ||| _) g || decide (g < e))
    rw [jb_or, jb_one (by omega), Bool.or_assoc, ← Bool.decide_or]
    congr 1
    exact decide_eq_decide.mpr (by omega)
