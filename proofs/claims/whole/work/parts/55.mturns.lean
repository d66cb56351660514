/-! THE REFERENCE: what turns -/
theorem zb_iff {r : Int32} {P Q : Prop} (h : zb r P) (e : P ↔ Q) : zb r Q := h.elim (fun z => Or.inl ⟨z.1, e.mp z.2⟩) (fun z => Or.inr ⟨z.1, fun q => z.2 (e.mpr q)⟩)
theorem ix60 (x k : Nat) : (60 : Int32) * nI x + nI k = nI (60 * x + k) := by rw [show (60 : Int32) = nI 60 from rfl, pk_mul, nI_add]
def tu_D (T : mx_T) (nn : Nat → Nat) (x y : Nat) : Prop := ∃ t j k, t < mx_n T ∧ nn t = x ∧ mx_bu T t = true ∧ j < 3 ∧ mx_pl T j t = some k ∧ nn k = y
theorem tu_iff {T : mx_T} (hw : mx_wf T) {nn : Nat → Nat} (hq : lq_ok (mx_n T) nn) {B : Nat → Nat → Bool} (h1 : ∀ x y, tu_D T nn x y → B x y = true) (h2 : ∀ x y z, B x y = true → B y z = true → B x z = true)
    (h3 : ∀ R : Nat → Nat → Prop, (∀ x y, tu_D T nn x y → R x y) → (∀ x y z, R x y → R y z → R x z) → ∀ x y, B x y = true → R x y) (h4 : ∀ x y, B x y = true → x < mx_n T ∧ y < mx_n T) : (∃ t, t < mx_n T ∧ B t t = true) ↔ mx_cC T nn := by
  have hdec : ∀ x z, B x z = true → tu_D T nn x z ∨ ∃ y, tu_D T nn x y ∧ B y z = true := by
    have hb : ∀ x z, (tu_D T nn x z ∨ ∃ y, tu_D T nn x y ∧ B y z = true) → B x z = true := by
      rintro x z (q | ⟨y, q, r⟩)
      · exact h1 x z q
      · exact h2 x y z (h1 x y q) r
    refine h3 (fun x z => tu_D T nn x z ∨ ∃ y, tu_D T nn x y ∧ B y z = true) (fun x y q => Or.inl q) ?_
    rintro x y z (q | ⟨w, q, r⟩) k
    · exact Or.inr ⟨y, q, hb y z k⟩
    · exact Or.inr ⟨w, q, h2 w y z r (hb y z k)⟩
  constructor
  · rintro ⟨r, hr, e⟩
    have hrr : nn r = r := by
      rcases hdec r r e with ⟨t, j, k, ht, et, -⟩ | ⟨y, ⟨t, j, k, ht, et, -⟩, -⟩
      · rw [← et]; exact (hq t ht).2
      · rw [← et]; exact (hq t ht).2
    refine ⟨r, hr, fun hc => ?_⟩
    have := hc (fun x => ¬ B (nn x) (nn x) = true) (fun t ht hk hB => ?_)
    · rw [hrr] at this; exact this e
    · rcases hdec _ _ hB with ⟨u, j, k, hu, eu, hb, hj, hp, ek⟩ | ⟨y, ⟨u, j, k, hu, eu, hb, hj, hp, ek⟩, q⟩
      · exact hk u j k hu eu hb hj hp (by rw [ek]; exact hB)
      · refine hk u j k hu eu hb hj hp ?_
        rw [ek]
        exact h2 _ _ _ q (h1 _ _ ⟨u, j, k, hu, eu, hb, hj, hp, ek⟩)
  · rintro ⟨x, hx, hn⟩
    refine Classical.byContradiction fun hno => hn ?_
    have irr : ∀ t, ¬ B t t = true := fun t q => hno ⟨t, (h4 t t q).1, q⟩
    have key : ∀ d x, x < mx_n T → mx_cnt (B (nn x)) (mx_n T) ≤ d → mx_clr T nn x := by
      intro d
      induction d with
      | zero =>
        intro x hx hd
        refine mx_clr_step hx (fun k ⟨u, j, hu, eu, hb, hj, hp⟩ => ?_)
        have hB := h1 (nn x) (nn k) ⟨u, j, k, hu, eu, hb, hj, hp, rfl⟩
        have := mx_cnt_z (p := B (nn x)) (n := mx_n T) (by omega) (nn k) (h4 _ _ hB).2
        rw [this] at hB; cases hB
      | succ d ih =>
        intro x hx hd
        refine mx_clr_step hx (fun k ⟨u, j, hu, eu, hb, hj, hp⟩ => ?_)
        have hB := h1 (nn x) (nn k) ⟨u, j, k, hu, eu, hb, hj, hp, rfl⟩
        refine ih k (Nat.lt_trans (hw.1 u j k hu hp) hu) ?_
        have e1 := mx_cnt_drop (p := B (nn x)) (q := fun i => (B (nn x) i && decide (i ≠ nn k))) (g := nn k) (n := mx_n T) (fun _ _ => rfl) (h4 _ _ hB).2 hB
        have e2 : mx_cnt (B (nn k)) (mx_n T) ≤ mx_cnt (fun i => (B (nn x) i && decide (i ≠ nn k))) (mx_n T) := mx_cnt_mono (fun i _ hi => by
          rw [Bool.and_eq_true]
          exact ⟨h2 _ _ _ hB hi, decide_eq_true (fun z => irr (nn k) (by rw [z] at hi; exact hi))⟩)
        omega
    exact key _ x hx (Nat.le_refl _)
/-- what is marked so far: terms ahead of t, and j places of t -/
def tu_A (T : mx_T) (nn : Nat → Nat) (t j : Nat) (bl : Nat → Int32) : Prop := ∀ x y, x < 60 → y < 60 → (bl (60 * x + y) = 0 ∨ bl (60 * x + y) = 1) ∧
  (bl (60 * x + y) = 1 ↔ (∃ u i k, u < t ∧ nn u = x ∧ mx_bu T u = true ∧ i < 3 ∧ mx_pl T i u = some k ∧ nn k = y) ∨ ∃ i k, i < j ∧ i < 3 ∧ nn t = x ∧ mx_bu T t = true ∧ mx_pl T i t = some k ∧ nn k = y)
theorem tu_A0 {T : mx_T} {nn : Nat → Nat} {bl : Nat → Int32} (h : ∀ i, i < 3600 → bl i = 0) : tu_A T nn 0 0 bl := by
  intro x y hx hy
  rw [h (60 * x + y) (by omega)]
  refine ⟨Or.inl rfl, ⟨fun z => absurd z (by decide), ?_⟩⟩
  rintro (⟨u, i, k, hu, -⟩ | ⟨i, k, hi, -⟩)
  · exact absurd hu (Nat.not_lt_zero u)
  · exact absurd hi (Nat.not_lt_zero i)
theorem tu_set {T : mx_T} {nn : Nat → Nat} {t j k : Nat} {bl : Nat → Int32} (h : tu_A T nn t j bl) (hb : mx_bu T t = true) (hj : j < 3) (hp : mx_pl T j t = some k) (hk : nn k < 60) : tu_A T nn t (j + 1) (upd bl (60 * nn t + nn k) 1) := by
  intro x y hx hy
  obtain ⟨h1, h2⟩ := h x y hx hy
  by_cases q : 60 * x + y = 60 * nn t + nn k
  · have e1 : nn t = x := by omega
    have e2 : nn k = y := by omega
    rw [q, pk_us]
    exact ⟨Or.inr rfl, ⟨fun _ => Or.inr ⟨j, k, by omega, hj, e1, hb, hp, e2⟩, fun _ => rfl⟩⟩
  · rw [pk_un q]
    refine ⟨h1, h2.trans (or_congr_right ⟨?_, ?_⟩)⟩
    · rintro ⟨i, k1, a, b⟩
      exact ⟨i, k1, by omega, b⟩
    · rintro ⟨i, k1, a, b, c, d, e, f⟩
      by_cases z : i = j
      · subst z
        rw [hp] at e
        cases e
        exact absurd (by rw [c, f]) q
      · exact ⟨i, k1, by omega, b, c, d, e, f⟩
theorem tu_next {T : mx_T} {nn : Nat → Nat} {t j : Nat} {bl : Nat → Int32} (h : tu_A T nn t j bl) (hq : mx_bu T t = true → ∀ i k, i < 3 → mx_pl T i t = some k → i < j) : tu_A T nn (t + 1) 0 bl := by
  intro x y hx hy
  obtain ⟨h1, h2⟩ := h x y hx hy
  refine ⟨h1, h2.trans ⟨?_, ?_⟩⟩
  · rintro (⟨u, i, k, a, b⟩ | ⟨i, k, a, b, c, d, e, f⟩)
    · exact Or.inl ⟨u, i, k, by omega, b⟩
    · exact Or.inl ⟨t, i, k, by omega, c, d, b, e, f⟩
  · rintro (⟨u, i, k, a, b, c, d, e, f⟩ | ⟨i, k, a, -⟩)
    · by_cases z : u = t
      · subst z
        exact Or.inr ⟨i, k, hq c i k d e, d, b, c, e, f⟩
      · exact Or.inl ⟨u, i, k, by omega, b, c, d, e, f⟩
    · exact absurd a (Nat.not_lt_zero i)
def tu_b (n : Nat) (bl : Nat → Int32) (x y : Nat) : Bool := decide (x < n ∧ y < n ∧ bl (60 * x + y) = 1)
theorem tu_bt {n : Nat} {bl : Nat → Int32} {x y : Nat} : tu_b n bl x y = true ↔ x < n ∧ y < n ∧ bl (60 * x + y) = 1 := by unfold tu_b; exact decide_eq_true_iff
/-- closed by what is ahead of m -/
def tu_B (T : mx_T) (nn : Nat → Nat) (m : Nat) (bl : Nat → Int32) : Prop := (∀ x y, x < mx_n T → y < mx_n T → bl (60 * x + y) = 0 ∨ bl (60 * x + y) = 1) ∧ (∀ x y, tu_D T nn x y → tu_b (mx_n T) bl x y = true) ∧
  (∀ R : Nat → Nat → Prop, (∀ x y, tu_D T nn x y → R x y) → (∀ x y z, R x y → R y z → R x z) → ∀ x y, tu_b (mx_n T) bl x y = true → R x y) ∧ ∀ i x y, i < m → tu_b (mx_n T) bl x i = true → tu_b (mx_n T) bl i y = true → tu_b (mx_n T) bl x y = true
theorem tu_B0 {T : mx_T} (hw : mx_wf T) (hn : mx_n T ≤ 60) {nn : Nat → Nat} (hq : lq_ok (mx_n T) nn) {bl : Nat → Int32} (h : tu_A T nn (mx_n T) 0 bl) : tu_B T nn 0 bl := by
  have e : ∀ x y, tu_b (mx_n T) bl x y = true ↔ tu_D T nn x y := by
    intro x y
    rw [tu_bt]
    constructor
    · rintro ⟨hx, hy, q⟩
      rcases (h x y (by omega) (by omega)).2.mp q with ⟨u, i, k, a, b, c, d, e, f⟩ | ⟨i, k, a, -⟩
      · exact ⟨u, i, k, a, b, c, d, e, f⟩
      · exact absurd a (Nat.not_lt_zero i)
    · rintro ⟨t, j, k, ht, e1, hb, hj, hp, e2⟩
      have h1 := hq t ht
      have hk := hw.1 t j k ht hp
      have h2 := hq k (by omega)
      refine ⟨by omega, by omega, (h x y (by omega) (by omega)).2.mpr (Or.inl ⟨t, j, k, ht, e1, hb, hj, hp, e2⟩)⟩
  exact ⟨fun x y hx hy => (h x y (by omega) (by omega)).1, fun x y q => (e x y).mpr q, fun R hR _ x y q => hR x y ((e x y).mp q), fun i x y hi => absurd hi (Nat.not_lt_zero i)⟩
/-- the rows ahead of x are through with m, and y of row x -/
def tu_C (n : Nat) (b0 : Nat → Int32) (m x y : Nat) (bl : Nat → Int32) : Prop := ∀ u v, u < n → v < n → (bl (60 * u + v) = 0 ∨ bl (60 * u + v) = 1) ∧
  (bl (60 * u + v) = 1 ↔ b0 (60 * u + v) = 1 ∨ (b0 (60 * u + m) = 1 ∧ b0 (60 * m + v) = 1 ∧ (u < x ∨ (u = x ∧ v < y))))
theorem tu_C0 {n : Nat} {b0 : Nat → Int32} {m : Nat} (h : ∀ x y, x < n → y < n → b0 (60 * x + y) = 0 ∨ b0 (60 * x + y) = 1) : tu_C n b0 m 0 0 b0 := by
  intro u v hu hv
  refine ⟨h u v hu hv, ⟨Or.inl, ?_⟩⟩
  rintro (q | ⟨-, -, q | q⟩)
  · exact q
  · exact absurd q (Nat.not_lt_zero u)
  · exact absurd q.2 (Nat.not_lt_zero v)
theorem tu_C_m {n : Nat} {b0 bl : Nat → Int32} {m x y : Nat} (h : tu_C n b0 m x y bl) (hm : m < n) {u : Nat} (hu : u < n) : bl (60 * u + m) = 1 ↔ b0 (60 * u + m) = 1 :=
  (h u m hu hm).2.trans ⟨fun q => q.elim id (fun z => z.1), Or.inl⟩
theorem tu_C_r {n : Nat} {b0 bl : Nat → Int32} {m x y : Nat} (h : tu_C n b0 m x y bl) (hm : m < n) {v : Nat} (hv : v < n) : bl (60 * m + v) = 1 ↔ b0 (60 * m + v) = 1 :=
  (h m v hm hv).2.trans ⟨fun q => q.elim id (fun z => z.2.1), Or.inl⟩
theorem tu_C_skip {n : Nat} {b0 bl : Nat → Int32} {m x y : Nat} (h : tu_C n b0 m x y bl) (q : ¬ b0 (60 * m + y) = 1) : tu_C n b0 m x (y + 1) bl := by
  intro u v hu hv
  refine ⟨(h u v hu hv).1, (h u v hu hv).2.trans (or_congr_right (and_congr_right fun _ => ⟨?_, ?_⟩))⟩
  · rintro ⟨a, b | b⟩
    · exact ⟨a, Or.inl b⟩
    · exact ⟨a, Or.inr ⟨b.1, by omega⟩⟩
  · rintro ⟨a, b | ⟨b, c⟩⟩
    · exact ⟨a, Or.inl b⟩
    · by_cases z : v = y
      · subst z; exact absurd a q
      · exact ⟨a, Or.inr ⟨b, by omega⟩⟩
theorem tu_C_set {n : Nat} {b0 bl : Nat → Int32} {m x y : Nat} (h : tu_C n b0 m x y bl) (hn : n ≤ 60) (hy : y < n) (q1 : b0 (60 * x + m) = 1) (q2 : b0 (60 * m + y) = 1) : tu_C n b0 m x (y + 1) (upd bl (60 * x + y) 1) := by
  intro u v hu hv
  by_cases q : 60 * u + v = 60 * x + y
  · have e1 : u = x := by omega
    have e2 : v = y := by omega
    subst e1; subst e2
    rw [pk_us]
    exact ⟨Or.inr rfl, ⟨fun _ => Or.inr ⟨q1, q2, Or.inr ⟨rfl, by omega⟩⟩, fun _ => rfl⟩⟩
  · rw [pk_un q]
    refine ⟨(h u v hu hv).1, (h u v hu hv).2.trans (or_congr_right (and_congr_right fun _ => and_congr_right fun _ => ⟨?_, ?_⟩))⟩
    · rintro (b | b)
      · exact Or.inl b
      · exact Or.inr ⟨b.1, by omega⟩
    · rintro (b | ⟨b, c⟩)
      · exact Or.inl b
      · refine Or.inr ⟨b, ?_⟩
        by_cases z : v = y
        · exact absurd (by rw [b, z]) q
        · omega
theorem tu_C_row {n : Nat} {b0 bl : Nat → Int32} {m x y : Nat} (h : tu_C n b0 m x y bl) (q : b0 (60 * x + m) = 1 → n ≤ y) : tu_C n b0 m (x + 1) 0 bl := by
  intro u v hu hv
  refine ⟨(h u v hu hv).1, (h u v hu hv).2.trans (or_congr_right ⟨?_, ?_⟩)⟩
  · rintro ⟨a, b, c | c⟩
    · exact ⟨a, b, Or.inl (by omega)⟩
    · exact ⟨a, b, Or.inl (by omega)⟩
  · rintro ⟨a, b, c | c⟩
    · by_cases z : u = x
      · subst z
        exact ⟨a, b, Or.inr ⟨rfl, by have := q a; omega⟩⟩
      · exact ⟨a, b, Or.inl (by omega)⟩
    · exact absurd c.2 (Nat.not_lt_zero v)
theorem tu_B_s {T : mx_T} {nn : Nat → Nat} {m : Nat} {b0 bl : Nat → Int32} (h : tu_B T nn m b0) (hm : m < mx_n T) (hc : tu_C (mx_n T) b0 m (mx_n T) 0 bl) : tu_B T nn (m + 1) bl := by
  have e : ∀ x y, tu_b (mx_n T) bl x y = true ↔ tu_b (mx_n T) b0 x y = true ∨ (tu_b (mx_n T) b0 x m = true ∧ tu_b (mx_n T) b0 m y = true) := by
    intro x y
    simp only [tu_bt]
    constructor
    · rintro ⟨hx, hy, q⟩
      rcases (hc x y hx hy).2.mp q with a | ⟨a, b, -⟩
      · exact Or.inl ⟨hx, hy, a⟩
      · exact Or.inr ⟨⟨hx, hm, a⟩, hm, hy, b⟩
    · rintro (⟨hx, hy, q⟩ | ⟨⟨hx, -, a⟩, -, hy, b⟩)
      · exact ⟨hx, hy, (hc x y hx hy).2.mpr (Or.inl q)⟩
      · exact ⟨hx, hy, (hc x y hx hy).2.mpr (Or.inr ⟨a, b, Or.inl hx⟩)⟩
  obtain ⟨h1, h2, h3, h4⟩ := h
  refine ⟨fun x y hx hy => (hc x y hx hy).1, fun x y q => (e x y).mpr (Or.inl (h2 x y q)), fun R hR ht x y q => ?_, fun i x y hi p q => ?_⟩
  · rcases (e x y).mp q with a | ⟨a, b⟩
    · exact h3 R hR ht x y a
    · exact ht x m y (h3 R hR ht x m a) (h3 R hR ht m y b)
  · rw [e] at p q ⊢
    by_cases z : i = m
    · subst z
      have p' : tu_b (mx_n T) b0 x i = true := p.elim id (fun z => z.1)
      have q' : tu_b (mx_n T) b0 i y = true := q.elim id (fun z => z.2)
      exact Or.inr ⟨p', q'⟩
    · have hi : i < m := by omega
      rcases p with p | ⟨p1, p2⟩ <;> rcases q with q | ⟨q1, q2⟩
      · exact Or.inl (h4 i x y hi p q)
      · exact Or.inr ⟨h4 i x m hi p q1, q2⟩
      · exact Or.inr ⟨p1, h4 i m y hi p2 q⟩
      · exact Or.inr ⟨p1, q2⟩
theorem tu_end {T : mx_T} (hw : mx_wf T) {nn : Nat → Nat} (hq : lq_ok (mx_n T) nn) {bl : Nat → Int32} (h : tu_B T nn (mx_n T) bl) : (∃ t, t < mx_n T ∧ bl (60 * t + t) = 1) ↔ mx_cC T nn := by
  rw [← tu_iff hw hq (B := tu_b (mx_n T) bl) h.2.1 (fun x y z p q => h.2.2.2 y x z ((tu_bt.mp p).2.1) p q) h.2.2.1 (fun x y q => ⟨(tu_bt.mp q).1, (tu_bt.mp q).2.1⟩)]
  exact ⟨fun ⟨t, ht, q⟩ => ⟨t, ht, tu_bt.mpr ⟨ht, ht, q⟩⟩, fun ⟨t, ht, q⟩ => ⟨t, ht, (tu_bt.mp q).2.2⟩⟩

set_option maxHeartbeats 4000000 in
set_option maxRecDepth 100000 in
theorem tu_7 {p : Program} {l : Launch} {e : Env} {s : State} {m : MethodId} {args : Array Value} {below : List Frame} {meth : Method} {c : Code} {Q : State → Prop} (hx : p.tables.exec = Jvm.exec) (hb : c.code = cX4_turns) (hown : s.vm.findClass RX4 = some m.cls) (hts : ∀ w ∈ wsX4_turns, w.before args s = true) {dC : Nat → ClassId} {dI : Nat → Nat → Nat} {cI cJ cZ : ClassId} (hK : va_K (dC, dI) vwCl [(cI, .int), (cJ, .long), (cZ, .boolean)] s) {T : mx_T} {F : mx_F} {nn : Nat → Nat} {mA : Nat → Nat} {th : Int32} {jo : Int32} {isb : Nat → Int32} {pls : Nat → Int32} {msg : Nat → Int32} {at_ : Nat → Int32} {le : Nat → Int32} {bl : Nat → Int32} (hw : mx_wf T) (hpf : mx_pf T) (hn : mx_n T ≤ 60) (hmt : md_T T isb pls msg at_) (h : md_L T nn le) (hbl : ∀ x y, x < mx_n T → y < mx_n T → bl (60 * x + y) = 0 ∨ bl (60 * x + y) = 1) {A : Nat → Prop} {H0 : Heap} (hA : ∀ q : Nat, H0.size ≤ q → A q) (hml : c.maxLocals = 4) (kk : ∀ (tr : Int32) (H : Heap) (locs : List Loc) (ls : Array Slot), (zb tr (∃ u, u < mx_n T ∧ bl (60 * u + u) = 1)) → va_P (dC, dI) vwCl [(mA 0, .inr (4, [.int th, .ref (mA 1), .ref (mA 2), .ref (mA 3), .int (nI (mx_n T)), .int (nI (mx_m F)), .ref (mA 4), .ref (mA 5), .ref (mA 6), .ref (mA 7), .ref (mA 8), .ref (mA 9), .int jo, .ref (mA 10), .ref (mA 11)])), (mA 1, .inl (cZ, 16, .inl isb)), (mA 3, .inl (cI, 16, .inl pls)), (mA 4, .inl (cI, 60, .inl msg)), (mA 5, .inl (cI, 180, .inl at_)), (mA 9, .inl (cI, 60, .inl le)), (mA 10, .inl (cZ, 3600, .inl bl))] H → va_D A [(mA 0, .inr (4, [.int th, .ref (mA 1), .ref (mA 2), .ref (mA 3), .int (nI (mx_n T)), .int (nI (mx_m F)), .ref (mA 4), .ref (mA 5), .ref (mA 6), .ref (mA 7), .ref (mA 8), .ref (mA 9), .int jo, .ref (mA 10), .ref (mA 11)])), (mA 1, .inl (cZ, 16, .inl isb)), (mA 3, .inl (cI, 16, .inl pls)), (mA 4, .inl (cI, 60, .inl msg)), (mA 5, .inl (cI, 180, .inl at_)), (mA 9, .inl (cI, 60, .inl le)), (mA 10, .inl (cZ, 3600, .inl bl))] → va_S A H0 H locs → lv_has ls 4 [(1, .int tr)] → W p l e ({ frames := 0, cells := 0, slots := 0, locals := 0 }) s m args below meth c H locs 0 0 Q (F0 m 236 ls [])) : ∀ (d : Nat) (t : Nat) (tr : Int32) (H : Heap) (locs : List Loc) (ls : Array Slot), (t + d = mx_n T) → (zb tr (∃ u, u < t ∧ bl (60 * u + u) = 1)) → va_P (dC, dI) vwCl [(mA 0, .inr (4, [.int th, .ref (mA 1), .ref (mA 2), .ref (mA 3), .int (nI (mx_n T)), .int (nI (mx_m F)), .ref (mA 4), .ref (mA 5), .ref (mA 6), .ref (mA 7), .ref (mA 8), .ref (mA 9), .int jo, .ref (mA 10), .ref (mA 11)])), (mA 1, .inl (cZ, 16, .inl isb)), (mA 3, .inl (cI, 16, .inl pls)), (mA 4, .inl (cI, 60, .inl msg)), (mA 5, .inl (cI, 180, .inl at_)), (mA 9, .inl (cI, 60, .inl le)), (mA 10, .inl (cZ, 3600, .inl bl))] H → va_D A [(mA 0, .inr (4, [.int th, .ref (mA 1), .ref (mA 2), .ref (mA 3), .int (nI (mx_n T)), .int (nI (mx_m F)), .ref (mA 4), .ref (mA 5), .ref (mA 6), .ref (mA 7), .ref (mA 8), .ref (mA 9), .int jo, .ref (mA 10), .ref (mA 11)])), (mA 1, .inl (cZ, 16, .inl isb)), (mA 3, .inl (cI, 16, .inl pls)), (mA 4, .inl (cI, 60, .inl msg)), (mA 5, .inl (cI, 180, .inl at_)), (mA 9, .inl (cI, 60, .inl le)), (mA 10, .inl (cZ, 3600, .inl bl))] → va_S A H0 H locs → lv_has ls 4 [(0, .ref (mA 0)), (1, .int tr), (2, .int (nI t))] → W p l e ({ frames := 0, cells := 0, slots := 0, locals := 0 }) s m args below meth c H locs 0 0 Q (F0 m 198 ls []) := by
  intro d
  induction d with
  | zero =>
    intro t tr H locs ls hd hI hP hD hS hl
    refine lv_iload_n hx hb dX4_turns_198 rfl (lv_at hl 2 rfl) ?_
    refine lv_aload_n hx hb dX4_turns_199 rfl (lv_at hl 0 rfl) ?_
    refine va_get (D := (dC, dI)) (ci := 4) (v := .int (nI (mx_n T))) (C := RX4) (T := TX4) (N := 15) hx hb hts (fun w h => woX4_turns w (inX4 w h)) hown hK hP 0 rfl rfl 4 (by decide) (hts _ (woX4_turns _ wd_497)) (fun _ h9 => h9) rfl dX4_turns_200 ?_
    refine lv_icmp_ge (tgt := 236) hx hb dX4_turns_203 (by decide) (fun c1 => ?_) (fun c1 => ?_)
    · have e : t = mx_n T := by omega
      rw [e] at hI
      refine kk tr _ _ _ hI hP hD hS (lv_sub hl [1] rfl)
    · exact absurd (nI_le (a := mx_n T) (b := t) (by omega) (by omega)) c1
  | succ d ih =>
    intro t tr H locs ls hd hI hP hD hS hl
    have ht : t < mx_n T := by omega
    refine lv_iload_n hx hb dX4_turns_198 rfl (lv_at hl 2 rfl) ?_
    refine lv_aload_n hx hb dX4_turns_199 rfl (lv_at hl 0 rfl) ?_
    refine va_get (D := (dC, dI)) (ci := 4) (v := .int (nI (mx_n T))) (C := RX4) (T := TX4) (N := 15) hx hb hts (fun w h => woX4_turns w (inX4 w h)) hown hK hP 0 rfl rfl 4 (by decide) (hts _ (woX4_turns _ wd_497)) (fun _ h9 => h9) rfl dX4_turns_200 ?_
    refine lv_icmp_ge (tgt := 236) hx hb dX4_turns_203 (by decide) (fun c1 => ?_) (fun c1 => ?_)
    · exact absurd c1 (nI_ge ht (by omega))
    · refine lv_iload_n hx hb dX4_turns_206 rfl (lv_at hl 1 rfl) ?_
      refine lv_if_ne (tgt := 224) hx hb dX4_turns_207 (by decide) (fun c2 => ?_) (fun c2 => ?_)
      · refine lv_iconst (v := 1) hx hb dX4_turns_224 (by decide) ?_
        refine lv_goto (tgt := 229) hx hb dX4_turns_225 (by decide) ?_
        refine lv_istore_n (lv' := [(1, .int 1), (0, .ref (mA 0)), (2, .int (nI t))]) hx hb dX4_turns_229 rfl hl (by decide) rfl (fun ls hl => ?_)
        obtain ⟨y_1, ey_1⟩ : ∃ y9 : Int32, y9 = (nI t) + 1 := ⟨_, rfl⟩
        refine lv_iinc (v := y_1) (lv' := [(2, .int y_1), (1, .int 1), (0, .ref (mA 0))]) hx hb dX4_turns_230 hl (k := 2) rfl (by rw [ey_1]; rfl) (by decide) rfl (fun ls hl => ?_)
        refine lv_goto (tgt := 198) hx hb dX4_turns_233 (by decide) ?_
        rw [ey_1, nI_1] at hl
        refine ih (t + 1) 1 _ _ _ (by omega) (Or.inl ⟨rfl, by obtain ⟨u, hu, q⟩ := zb_t hI c2; exact ⟨u, by omega, q⟩⟩) hP hD hS (lv_sub hl [2, 1, 0] rfl)
      · refine lv_aload_n hx hb dX4_turns_210 rfl (lv_at hl 0 rfl) ?_
        refine va_get (D := (dC, dI)) (ci := 4) (v := .ref (mA 10)) (C := RX4) (T := TX4) (N := 15) hx hb hts (fun w h => woX4_turns w (inX4 w h)) hown hK hP 0 rfl rfl 13 (by decide) (hts _ (woX4_turns _ wd_506)) (fun _ h9 => h9) rfl dX4_turns_211 ?_
        refine lv_bipush (v := 60) hx hb dX4_turns_214 (by decide) ?_
        refine lv_iload_n hx hb dX4_turns_216 rfl (lv_at hl 2 rfl) ?_
        refine lv_imul hx hb dX4_turns_217 ?_
        refine lv_iload_n hx hb dX4_turns_218 rfl (lv_at hl 2 rfl) ?_
        refine lv_iadd hx hb dX4_turns_219 ?_
        rw [ix60]
        refine va_zald hx hb hK hP 6 2 rfl rfl (vp_in_nI (by omega) (by omega)) dX4_turns_220 ?_
        rw [show (nI (60 * t + t)).toNatClampNeg = (60 * t + t) from nI_clamp (by omega)]
        refine lv_if_eq (tgt := 228) hx hb dX4_turns_221 (by decide) (fun c3 => ?_) (fun c3 => ?_)
        · refine lv_iconst (v := 0) hx hb dX4_turns_228 (by decide) ?_
          refine lv_istore_n (lv' := [(1, .int 0), (0, .ref (mA 0)), (2, .int (nI t))]) hx hb dX4_turns_229 rfl hl (by decide) rfl (fun ls hl => ?_)
          obtain ⟨y_2, ey_2⟩ : ∃ y9 : Int32, y9 = (nI t) + 1 := ⟨_, rfl⟩
          refine lv_iinc (v := y_2) (lv' := [(2, .int y_2), (1, .int 0), (0, .ref (mA 0))]) hx hb dX4_turns_230 hl (k := 2) rfl (by rw [ey_2]; rfl) (by decide) rfl (fun ls hl => ?_)
          refine lv_goto (tgt := 198) hx hb dX4_turns_233 (by decide) ?_
          rw [ey_2, nI_1] at hl
          refine ih (t + 1) 0 _ _ _ (by omega) (Or.inr ⟨rfl, fun ⟨u, hu, q⟩ => ?_⟩) hP hD hS (lv_sub hl [2, 1, 0] rfl)
          rcases (show u < t ∨ u = t by omega) with z | rfl
          · exact zb_f hI c2 ⟨u, z, q⟩
          · rw [c3] at q; exact absurd q (by decide)
        · refine lv_iconst (v := 1) hx hb dX4_turns_224 (by decide) ?_
          refine lv_goto (tgt := 229) hx hb dX4_turns_225 (by decide) ?_
          refine lv_istore_n (lv' := [(1, .int 1), (0, .ref (mA 0)), (2, .int (nI t))]) hx hb dX4_turns_229 rfl hl (by decide) rfl (fun ls hl => ?_)
          obtain ⟨y_3, ey_3⟩ : ∃ y9 : Int32, y9 = (nI t) + 1 := ⟨_, rfl⟩
          refine lv_iinc (v := y_3) (lv' := [(2, .int y_3), (1, .int 1), (0, .ref (mA 0))]) hx hb dX4_turns_230 hl (k := 2) rfl (by rw [ey_3]; rfl) (by decide) rfl (fun ls hl => ?_)
          refine lv_goto (tgt := 198) hx hb dX4_turns_233 (by decide) ?_
          rw [ey_3, nI_1] at hl
          refine ih (t + 1) 1 _ _ _ (by omega) (Or.inl ⟨rfl, t, by omega, (hbl t t ht ht).resolve_left c3⟩) hP hD hS (lv_sub hl [2, 1, 0] rfl)

set_option maxHeartbeats 4000000 in
set_option maxRecDepth 100000 in
theorem tu_6 {p : Program} {l : Launch} {e : Env} {s : State} {m : MethodId} {args : Array Value} {below : List Frame} {meth : Method} {c : Code} {Q : State → Prop} (hx : p.tables.exec = Jvm.exec) (hb : c.code = cX4_turns) (hown : s.vm.findClass RX4 = some m.cls) (hts : ∀ w ∈ wsX4_turns, w.before args s = true) {dC : Nat → ClassId} {dI : Nat → Nat → Nat} {cI cJ cZ : ClassId} (hK : va_K (dC, dI) vwCl [(cI, .int), (cJ, .long), (cZ, .boolean)] s) {T : mx_T} {F : mx_F} {nn : Nat → Nat} {mA : Nat → Nat} {th : Int32} {jo : Int32} {isb : Nat → Int32} {pls : Nat → Int32} {msg : Nat → Int32} {at_ : Nat → Int32} {le : Nat → Int32} {m0 : Nat} {x : Nat} {b0 : Nat → Int32} (hw : mx_wf T) (hpf : mx_pf T) (hn : mx_n T ≤ 60) (hmt : md_T T isb pls msg at_) (h : md_L T nn le) (hm0 : m0 < mx_n T) (hx0 : x < mx_n T) {A : Nat → Prop} {H0 : Heap} (hA : ∀ q : Nat, H0.size ≤ q → A q) (hml : c.maxLocals = 4) (kk : ∀ (bl : Nat → Int32) (H : Heap) (locs : List Loc) (ls : Array Slot), (tu_C (mx_n T) b0 m0 (x + 1) 0 bl) → va_P (dC, dI) vwCl [(mA 0, .inr (4, [.int th, .ref (mA 1), .ref (mA 2), .ref (mA 3), .int (nI (mx_n T)), .int (nI (mx_m F)), .ref (mA 4), .ref (mA 5), .ref (mA 6), .ref (mA 7), .ref (mA 8), .ref (mA 9), .int jo, .ref (mA 10), .ref (mA 11)])), (mA 1, .inl (cZ, 16, .inl isb)), (mA 3, .inl (cI, 16, .inl pls)), (mA 4, .inl (cI, 60, .inl msg)), (mA 5, .inl (cI, 180, .inl at_)), (mA 9, .inl (cI, 60, .inl le)), (mA 10, .inl (cZ, 3600, .inl bl))] H → va_D A [(mA 0, .inr (4, [.int th, .ref (mA 1), .ref (mA 2), .ref (mA 3), .int (nI (mx_n T)), .int (nI (mx_m F)), .ref (mA 4), .ref (mA 5), .ref (mA 6), .ref (mA 7), .ref (mA 8), .ref (mA 9), .int jo, .ref (mA 10), .ref (mA 11)])), (mA 1, .inl (cZ, 16, .inl isb)), (mA 3, .inl (cI, 16, .inl pls)), (mA 4, .inl (cI, 60, .inl msg)), (mA 5, .inl (cI, 180, .inl at_)), (mA 9, .inl (cI, 60, .inl le)), (mA 10, .inl (cZ, 3600, .inl bl))] → va_S A H0 H locs → lv_has ls 4 [(0, .ref (mA 0)), (1, .int (nI m0)), (2, .int (nI x))] → W p l e ({ frames := 0, cells := 0, slots := 0, locals := 0 }) s m args below meth c H locs 0 0 Q (F0 m 182 ls [])) : ∀ (d : Nat) (y : Nat) (bl : Nat → Int32) (H : Heap) (locs : List Loc) (ls : Array Slot), (y + d = mx_n T) → (tu_C (mx_n T) b0 m0 x y bl) → va_P (dC, dI) vwCl [(mA 0, .inr (4, [.int th, .ref (mA 1), .ref (mA 2), .ref (mA 3), .int (nI (mx_n T)), .int (nI (mx_m F)), .ref (mA 4), .ref (mA 5), .ref (mA 6), .ref (mA 7), .ref (mA 8), .ref (mA 9), .int jo, .ref (mA 10), .ref (mA 11)])), (mA 1, .inl (cZ, 16, .inl isb)), (mA 3, .inl (cI, 16, .inl pls)), (mA 4, .inl (cI, 60, .inl msg)), (mA 5, .inl (cI, 180, .inl at_)), (mA 9, .inl (cI, 60, .inl le)), (mA 10, .inl (cZ, 3600, .inl bl))] H → va_D A [(mA 0, .inr (4, [.int th, .ref (mA 1), .ref (mA 2), .ref (mA 3), .int (nI (mx_n T)), .int (nI (mx_m F)), .ref (mA 4), .ref (mA 5), .ref (mA 6), .ref (mA 7), .ref (mA 8), .ref (mA 9), .int jo, .ref (mA 10), .ref (mA 11)])), (mA 1, .inl (cZ, 16, .inl isb)), (mA 3, .inl (cI, 16, .inl pls)), (mA 4, .inl (cI, 60, .inl msg)), (mA 5, .inl (cI, 180, .inl at_)), (mA 9, .inl (cI, 60, .inl le)), (mA 10, .inl (cZ, 3600, .inl bl))] → va_S A H0 H locs → lv_has ls 4 [(0, .ref (mA 0)), (1, .int (nI m0)), (2, .int (nI x)), (3, .int (nI y))] → W p l e ({ frames := 0, cells := 0, slots := 0, locals := 0 }) s m args below meth c H locs 0 0 Q (F0 m 128 ls []) := by
  intro d
  induction d with
  | zero =>
    intro y bl H locs ls hd hI hP hD hS hl
    have hcx := hI x m0 hx0 hm0
    refine lv_aload_n hx hb dX4_turns_128 rfl (lv_at hl 0 rfl) ?_
    refine va_get (D := (dC, dI)) (ci := 4) (v := .ref (mA 10)) (C := RX4) (T := TX4) (N := 15) hx hb hts (fun w h => woX4_turns w (inX4 w h)) hown hK hP 0 rfl rfl 13 (by decide) (hts _ (woX4_turns _ wd_506)) (fun _ h9 => h9) rfl dX4_turns_129 ?_
    refine lv_bipush (v := 60) hx hb dX4_turns_132 (by decide) ?_
    refine lv_iload_n hx hb dX4_turns_134 rfl (lv_at hl 2 rfl) ?_
    refine lv_imul hx hb dX4_turns_135 ?_
    refine lv_iload_n hx hb dX4_turns_136 rfl (lv_at hl 1 rfl) ?_
    refine lv_iadd hx hb dX4_turns_137 ?_
    rw [ix60]
    refine va_zald hx hb hK hP 6 2 rfl rfl (vp_in_nI (by omega) (by omega)) dX4_turns_138 ?_
    rw [show (nI (60 * x + m0)).toNatClampNeg = (60 * x + m0) from nI_clamp (by omega)]
    refine lv_if_eq (tgt := 182) hx hb dX4_turns_139 (by decide) (fun c1 => ?_) (fun c1 => ?_)
    · refine kk bl _ _ _ (tu_C_row hI (fun q => by rw [(tu_C_m hI hm0 hx0).mpr q] at c1; exact absurd c1 (by decide))) hP hD hS (lv_sub hl [0, 1, 2] rfl)
    · have hxm := (tu_C_m hI hm0 hx0).mp (hcx.1.resolve_left c1)
      refine lv_iload_n hx hb dX4_turns_142 rfl (lv_at hl 3 rfl) ?_
      refine lv_aload_n hx hb dX4_turns_143 rfl (lv_at hl 0 rfl) ?_
      refine va_get (D := (dC, dI)) (ci := 4) (v := .int (nI (mx_n T))) (C := RX4) (T := TX4) (N := 15) hx hb hts (fun w h => woX4_turns w (inX4 w h)) hown hK hP 0 rfl rfl 4 (by decide) (hts _ (woX4_turns _ wd_497)) (fun _ h9 => h9) rfl dX4_turns_144 ?_
      refine lv_icmp_ge (tgt := 182) hx hb dX4_turns_147 (by decide) (fun c2 => ?_) (fun c2 => ?_)
      · refine kk bl _ _ _ (tu_C_row hI (fun _ => by omega)) hP hD hS (lv_sub hl [0, 1, 2] rfl)
      · exact absurd (nI_le (a := mx_n T) (b := y) (by omega) (by omega)) c2
  | succ d ih =>
    intro y bl H locs ls hd hI hP hD hS hl
    have hcx := hI x m0 hx0 hm0
    refine lv_aload_n hx hb dX4_turns_128 rfl (lv_at hl 0 rfl) ?_
    refine va_get (D := (dC, dI)) (ci := 4) (v := .ref (mA 10)) (C := RX4) (T := TX4) (N := 15) hx hb hts (fun w h => woX4_turns w (inX4 w h)) hown hK hP 0 rfl rfl 13 (by decide) (hts _ (woX4_turns _ wd_506)) (fun _ h9 => h9) rfl dX4_turns_129 ?_
    refine lv_bipush (v := 60) hx hb dX4_turns_132 (by decide) ?_
    refine lv_iload_n hx hb dX4_turns_134 rfl (lv_at hl 2 rfl) ?_
    refine lv_imul hx hb dX4_turns_135 ?_
    refine lv_iload_n hx hb dX4_turns_136 rfl (lv_at hl 1 rfl) ?_
    refine lv_iadd hx hb dX4_turns_137 ?_
    rw [ix60]
    refine va_zald hx hb hK hP 6 2 rfl rfl (vp_in_nI (by omega) (by omega)) dX4_turns_138 ?_
    rw [show (nI (60 * x + m0)).toNatClampNeg = (60 * x + m0) from nI_clamp (by omega)]
    refine lv_if_eq (tgt := 182) hx hb dX4_turns_139 (by decide) (fun c1 => ?_) (fun c1 => ?_)
    · refine kk bl _ _ _ (tu_C_row hI (fun q => by rw [(tu_C_m hI hm0 hx0).mpr q] at c1; exact absurd c1 (by decide))) hP hD hS (lv_sub hl [0, 1, 2] rfl)
    · have hxm := (tu_C_m hI hm0 hx0).mp (hcx.1.resolve_left c1)
      refine lv_iload_n hx hb dX4_turns_142 rfl (lv_at hl 3 rfl) ?_
      refine lv_aload_n hx hb dX4_turns_143 rfl (lv_at hl 0 rfl) ?_
      refine va_get (D := (dC, dI)) (ci := 4) (v := .int (nI (mx_n T))) (C := RX4) (T := TX4) (N := 15) hx hb hts (fun w h => woX4_turns w (inX4 w h)) hown hK hP 0 rfl rfl 4 (by decide) (hts _ (woX4_turns _ wd_497)) (fun _ h9 => h9) rfl dX4_turns_144 ?_
      refine lv_icmp_ge (tgt := 182) hx hb dX4_turns_147 (by decide) (fun c2 => ?_) (fun c2 => ?_)
      · exact absurd c2 (nI_ge (show y < mx_n T by omega) (by omega))
      · have hy0 : y < mx_n T := by omega
        refine lv_aload_n hx hb dX4_turns_150 rfl (lv_at hl 0 rfl) ?_
        refine va_get (D := (dC, dI)) (ci := 4) (v := .ref (mA 10)) (C := RX4) (T := TX4) (N := 15) hx hb hts (fun w h => woX4_turns w (inX4 w h)) hown hK hP 0 rfl rfl 13 (by decide) (hts _ (woX4_turns _ wd_506)) (fun _ h9 => h9) rfl dX4_turns_151 ?_
        refine lv_bipush (v := 60) hx hb dX4_turns_154 (by decide) ?_
        refine lv_iload_n hx hb dX4_turns_156 rfl (lv_at hl 1 rfl) ?_
        refine lv_imul hx hb dX4_turns_157 ?_
        refine lv_iload_n hx hb dX4_turns_158 rfl (lv_at hl 3 rfl) ?_
        refine lv_iadd hx hb dX4_turns_159 ?_
        rw [ix60]
        refine va_zald hx hb hK hP 6 2 rfl rfl (vp_in_nI (by omega) (by omega)) dX4_turns_160 ?_
        rw [show (nI (60 * m0 + y)).toNatClampNeg = (60 * m0 + y) from nI_clamp (by omega)]
        refine lv_if_eq (tgt := 176) hx hb dX4_turns_161 (by decide) (fun c3 => ?_) (fun c3 => ?_)
        · obtain ⟨y_1, ey_1⟩ : ∃ y9 : Int32, y9 = (nI y) + 1 := ⟨_, rfl⟩
          refine lv_iinc (v := y_1) (lv' := [(3, .int y_1), (0, .ref (mA 0)), (1, .int (nI m0)), (2, .int (nI x))]) hx hb dX4_turns_176 hl (k := 3) rfl (by rw [ey_1]; rfl) (by decide) rfl (fun ls hl => ?_)
          refine lv_goto (tgt := 128) hx hb dX4_turns_179 (by decide) ?_
          rw [ey_1, nI_1] at hl
          refine ih (y + 1) bl _ _ _ (by omega) (tu_C_skip hI (fun q => by rw [(tu_C_r hI hm0 hy0).mpr q] at c3; exact absurd c3 (by decide))) hP hD hS (lv_sub hl [1, 2, 3, 0] rfl)
        · have hmy := (tu_C_r hI hm0 hy0).mp ((hI m0 y hm0 hy0).1.resolve_left c3)
          refine lv_aload_n hx hb dX4_turns_164 rfl (lv_at hl 0 rfl) ?_
          refine va_get (D := (dC, dI)) (ci := 4) (v := .ref (mA 10)) (C := RX4) (T := TX4) (N := 15) hx hb hts (fun w h => woX4_turns w (inX4 w h)) hown hK hP 0 rfl rfl 13 (by decide) (hts _ (woX4_turns _ wd_506)) (fun _ h9 => h9) rfl dX4_turns_165 ?_
          refine lv_bipush (v := 60) hx hb dX4_turns_168 (by decide) ?_
          refine lv_iload_n hx hb dX4_turns_170 rfl (lv_at hl 2 rfl) ?_
          refine lv_imul hx hb dX4_turns_171 ?_
          refine lv_iload_n hx hb dX4_turns_172 rfl (lv_at hl 3 rfl) ?_
          refine lv_iadd hx hb dX4_turns_173 ?_
          rw [ix60]
          refine lv_iconst (v := 1) hx hb dX4_turns_174 (by decide) ?_
          refine va_zast hx hb hK hP hD hS 6 2 rfl rfl (vp_in_nI (by omega) (by omega)) dX4_turns_175 (fun H locs hP hD hS => ?_)
          rw [show (nI (60 * x + y)).toNatClampNeg = (60 * x + y) from nI_clamp (by omega)] at hP hD
          rw [show vp_nar .boolean 1 = 1 from by decide] at hP hD
          have hP : va_P (dC, dI) vwCl [(mA 0, .inr (4, [.int th, .ref (mA 1), .ref (mA 2), .ref (mA 3), .int (nI (mx_n T)), .int (nI (mx_m F)), .ref (mA 4), .ref (mA 5), .ref (mA 6), .ref (mA 7), .ref (mA 8), .ref (mA 9), .int jo, .ref (mA 10), .ref (mA 11)])), (mA 1, .inl (cZ, 16, .inl isb)), (mA 3, .inl (cI, 16, .inl pls)), (mA 4, .inl (cI, 60, .inl msg)), (mA 5, .inl (cI, 180, .inl at_)), (mA 9, .inl (cI, 60, .inl le)), (mA 10, .inl (cZ, 3600, .inl (upd bl (60 * x + y) 1)))] H := hP
          have hD : va_D A [(mA 0, .inr (4, [.int th, .ref (mA 1), .ref (mA 2), .ref (mA 3), .int (nI (mx_n T)), .int (nI (mx_m F)), .ref (mA 4), .ref (mA 5), .ref (mA 6), .ref (mA 7), .ref (mA 8), .ref (mA 9), .int jo, .ref (mA 10), .ref (mA 11)])), (mA 1, .inl (cZ, 16, .inl isb)), (mA 3, .inl (cI, 16, .inl pls)), (mA 4, .inl (cI, 60, .inl msg)), (mA 5, .inl (cI, 180, .inl at_)), (mA 9, .inl (cI, 60, .inl le)), (mA 10, .inl (cZ, 3600, .inl (upd bl (60 * x + y) 1)))] := hD
          obtain ⟨y_2, ey_2⟩ : ∃ y9 : Int32, y9 = (nI y) + 1 := ⟨_, rfl⟩
          refine lv_iinc (v := y_2) (lv' := [(3, .int y_2), (0, .ref (mA 0)), (1, .int (nI m0)), (2, .int (nI x))]) hx hb dX4_turns_176 hl (k := 3) rfl (by rw [ey_2]; rfl) (by decide) rfl (fun ls hl => ?_)
          refine lv_goto (tgt := 128) hx hb dX4_turns_179 (by decide) ?_
          rw [ey_2, nI_1] at hl
          refine ih (y + 1) (upd bl (60 * x + y) 1) _ _ _ (by omega) (tu_C_set hI hn hy0 hxm hmy) hP hD hS (lv_sub hl [1, 2, 3, 0] rfl)

set_option maxHeartbeats 4000000 in
set_option maxRecDepth 100000 in
theorem tu_5 {p : Program} {l : Launch} {e : Env} {s : State} {m : MethodId} {args : Array Value} {below : List Frame} {meth : Method} {c : Code} {Q : State → Prop} (hx : p.tables.exec = Jvm.exec) (hb : c.code = cX4_turns) (hown : s.vm.findClass RX4 = some m.cls) (hts : ∀ w ∈ wsX4_turns, w.before args s = true) {dC : Nat → ClassId} {dI : Nat → Nat → Nat} {cI cJ cZ : ClassId} (hK : va_K (dC, dI) vwCl [(cI, .int), (cJ, .long), (cZ, .boolean)] s) {T : mx_T} {F : mx_F} {nn : Nat → Nat} {mA : Nat → Nat} {th : Int32} {jo : Int32} {isb : Nat → Int32} {pls : Nat → Int32} {msg : Nat → Int32} {at_ : Nat → Int32} {le : Nat → Int32} {m0 : Nat} {b0 : Nat → Int32} (hw : mx_wf T) (hpf : mx_pf T) (hn : mx_n T ≤ 60) (hmt : md_T T isb pls msg at_) (h : md_L T nn le) (hm0 : m0 < mx_n T) {A : Nat → Prop} {H0 : Heap} (hA : ∀ q : Nat, H0.size ≤ q → A q) (hml : c.maxLocals = 4) (kk : ∀ (bl : Nat → Int32) (H : Heap) (locs : List Loc) (ls : Array Slot), (tu_C (mx_n T) b0 m0 (mx_n T) 0 bl) → va_P (dC, dI) vwCl [(mA 0, .inr (4, [.int th, .ref (mA 1), .ref (mA 2), .ref (mA 3), .int (nI (mx_n T)), .int (nI (mx_m F)), .ref (mA 4), .ref (mA 5), .ref (mA 6), .ref (mA 7), .ref (mA 8), .ref (mA 9), .int jo, .ref (mA 10), .ref (mA 11)])), (mA 1, .inl (cZ, 16, .inl isb)), (mA 3, .inl (cI, 16, .inl pls)), (mA 4, .inl (cI, 60, .inl msg)), (mA 5, .inl (cI, 180, .inl at_)), (mA 9, .inl (cI, 60, .inl le)), (mA 10, .inl (cZ, 3600, .inl bl))] H → va_D A [(mA 0, .inr (4, [.int th, .ref (mA 1), .ref (mA 2), .ref (mA 3), .int (nI (mx_n T)), .int (nI (mx_m F)), .ref (mA 4), .ref (mA 5), .ref (mA 6), .ref (mA 7), .ref (mA 8), .ref (mA 9), .int jo, .ref (mA 10), .ref (mA 11)])), (mA 1, .inl (cZ, 16, .inl isb)), (mA 3, .inl (cI, 16, .inl pls)), (mA 4, .inl (cI, 60, .inl msg)), (mA 5, .inl (cI, 180, .inl at_)), (mA 9, .inl (cI, 60, .inl le)), (mA 10, .inl (cZ, 3600, .inl bl))] → va_S A H0 H locs → lv_has ls 4 [(0, .ref (mA 0)), (1, .int (nI m0))] → W p l e ({ frames := 0, cells := 0, slots := 0, locals := 0 }) s m args below meth c H locs 0 0 Q (F0 m 188 ls [])) : ∀ (d : Nat) (x : Nat) (bl : Nat → Int32) (H : Heap) (locs : List Loc) (ls : Array Slot), (x + d = mx_n T) → (tu_C (mx_n T) b0 m0 x 0 bl) → va_P (dC, dI) vwCl [(mA 0, .inr (4, [.int th, .ref (mA 1), .ref (mA 2), .ref (mA 3), .int (nI (mx_n T)), .int (nI (mx_m F)), .ref (mA 4), .ref (mA 5), .ref (mA 6), .ref (mA 7), .ref (mA 8), .ref (mA 9), .int jo, .ref (mA 10), .ref (mA 11)])), (mA 1, .inl (cZ, 16, .inl isb)), (mA 3, .inl (cI, 16, .inl pls)), (mA 4, .inl (cI, 60, .inl msg)), (mA 5, .inl (cI, 180, .inl at_)), (mA 9, .inl (cI, 60, .inl le)), (mA 10, .inl (cZ, 3600, .inl bl))] H → va_D A [(mA 0, .inr (4, [.int th, .ref (mA 1), .ref (mA 2), .ref (mA 3), .int (nI (mx_n T)), .int (nI (mx_m F)), .ref (mA 4), .ref (mA 5), .ref (mA 6), .ref (mA 7), .ref (mA 8), .ref (mA 9), .int jo, .ref (mA 10), .ref (mA 11)])), (mA 1, .inl (cZ, 16, .inl isb)), (mA 3, .inl (cI, 16, .inl pls)), (mA 4, .inl (cI, 60, .inl msg)), (mA 5, .inl (cI, 180, .inl at_)), (mA 9, .inl (cI, 60, .inl le)), (mA 10, .inl (cZ, 3600, .inl bl))] → va_S A H0 H locs → lv_has ls 4 [(0, .ref (mA 0)), (1, .int (nI m0)), (2, .int (nI x))] → W p l e ({ frames := 0, cells := 0, slots := 0, locals := 0 }) s m args below meth c H locs 0 0 Q (F0 m 118 ls []) := by
  intro d
  induction d with
  | zero =>
    intro x bl H locs ls hd hI hP hD hS hl
    refine lv_iload_n hx hb dX4_turns_118 rfl (lv_at hl 2 rfl) ?_
    refine lv_aload_n hx hb dX4_turns_119 rfl (lv_at hl 0 rfl) ?_
    refine va_get (D := (dC, dI)) (ci := 4) (v := .int (nI (mx_n T))) (C := RX4) (T := TX4) (N := 15) hx hb hts (fun w h => woX4_turns w (inX4 w h)) hown hK hP 0 rfl rfl 4 (by decide) (hts _ (woX4_turns _ wd_497)) (fun _ h9 => h9) rfl dX4_turns_120 ?_
    refine lv_icmp_ge (tgt := 188) hx hb dX4_turns_123 (by decide) (fun c1 => ?_) (fun c1 => ?_)
    · have e : x = mx_n T := by omega
      rw [e] at hI
      refine kk bl _ _ _ hI hP hD hS (lv_sub hl [0, 1] rfl)
    · exact absurd (nI_le (a := mx_n T) (b := x) (by omega) (by omega)) c1
  | succ d ih =>
    intro x bl H locs ls hd hI hP hD hS hl
    have hx0 : x < mx_n T := by omega
    refine lv_iload_n hx hb dX4_turns_118 rfl (lv_at hl 2 rfl) ?_
    refine lv_aload_n hx hb dX4_turns_119 rfl (lv_at hl 0 rfl) ?_
    refine va_get (D := (dC, dI)) (ci := 4) (v := .int (nI (mx_n T))) (C := RX4) (T := TX4) (N := 15) hx hb hts (fun w h => woX4_turns w (inX4 w h)) hown hK hP 0 rfl rfl 4 (by decide) (hts _ (woX4_turns _ wd_497)) (fun _ h9 => h9) rfl dX4_turns_120 ?_
    refine lv_icmp_ge (tgt := 188) hx hb dX4_turns_123 (by decide) (fun c1 => ?_) (fun c1 => ?_)
    · exact absurd c1 (nI_ge hx0 (by omega))
    · refine lv_iconst (v := 0) hx hb dX4_turns_126 (by decide) ?_
      refine lv_istore_n (lv' := [(3, .int 0), (0, .ref (mA 0)), (1, .int (nI m0)), (2, .int (nI x))]) hx hb dX4_turns_127 rfl hl (by decide) rfl (fun ls hl => ?_)
      refine tu_6 hx hb hown hts hK hw hpf hn hmt h hm0 hx0 hA hml (fun bl6 H locs ls hI6 hP hD hS hl => ?_) (mx_n T) 0 bl _ _ _ (by omega) hI hP hD hS (lv_sub hl [1, 2, 3, 0] rfl)
      obtain ⟨y_1, ey_1⟩ : ∃ y9 : Int32, y9 = (nI x) + 1 := ⟨_, rfl⟩
      refine lv_iinc (v := y_1) (lv' := [(2, .int y_1), (0, .ref (mA 0)), (1, .int (nI m0))]) hx hb dX4_turns_182 hl (k := 2) rfl (by rw [ey_1]; rfl) (by decide) rfl (fun ls hl => ?_)
      refine lv_goto (tgt := 118) hx hb dX4_turns_185 (by decide) ?_
      rw [ey_1, nI_1] at hl
      refine ih (x + 1) bl6 _ _ _ (by omega) hI6 hP hD hS (lv_sub hl [1, 2, 0] rfl)

set_option maxHeartbeats 4000000 in
set_option maxRecDepth 100000 in
theorem tu_4 {p : Program} {l : Launch} {e : Env} {s : State} {m : MethodId} {args : Array Value} {below : List Frame} {meth : Method} {c : Code} {Q : State → Prop} (hx : p.tables.exec = Jvm.exec) (hb : c.code = cX4_turns) (hown : s.vm.findClass RX4 = some m.cls) (hts : ∀ w ∈ wsX4_turns, w.before args s = true) {dC : Nat → ClassId} {dI : Nat → Nat → Nat} {cI cJ cZ : ClassId} (hK : va_K (dC, dI) vwCl [(cI, .int), (cJ, .long), (cZ, .boolean)] s) {T : mx_T} {F : mx_F} {nn : Nat → Nat} {mA : Nat → Nat} {th : Int32} {jo : Int32} {isb : Nat → Int32} {pls : Nat → Int32} {msg : Nat → Int32} {at_ : Nat → Int32} {le : Nat → Int32} (hw : mx_wf T) (hpf : mx_pf T) (hn : mx_n T ≤ 60) (hmt : md_T T isb pls msg at_) (h : md_L T nn le) {A : Nat → Prop} {H0 : Heap} (hA : ∀ q : Nat, H0.size ≤ q → A q) (hml : c.maxLocals = 4) (kk : ∀ (bl : Nat → Int32) (H : Heap) (locs : List Loc) (ls : Array Slot), (tu_B T nn (mx_n T) bl) → va_P (dC, dI) vwCl [(mA 0, .inr (4, [.int th, .ref (mA 1), .ref (mA 2), .ref (mA 3), .int (nI (mx_n T)), .int (nI (mx_m F)), .ref (mA 4), .ref (mA 5), .ref (mA 6), .ref (mA 7), .ref (mA 8), .ref (mA 9), .int jo, .ref (mA 10), .ref (mA 11)])), (mA 1, .inl (cZ, 16, .inl isb)), (mA 3, .inl (cI, 16, .inl pls)), (mA 4, .inl (cI, 60, .inl msg)), (mA 5, .inl (cI, 180, .inl at_)), (mA 9, .inl (cI, 60, .inl le)), (mA 10, .inl (cZ, 3600, .inl bl))] H → va_D A [(mA 0, .inr (4, [.int th, .ref (mA 1), .ref (mA 2), .ref (mA 3), .int (nI (mx_n T)), .int (nI (mx_m F)), .ref (mA 4), .ref (mA 5), .ref (mA 6), .ref (mA 7), .ref (mA 8), .ref (mA 9), .int jo, .ref (mA 10), .ref (mA 11)])), (mA 1, .inl (cZ, 16, .inl isb)), (mA 3, .inl (cI, 16, .inl pls)), (mA 4, .inl (cI, 60, .inl msg)), (mA 5, .inl (cI, 180, .inl at_)), (mA 9, .inl (cI, 60, .inl le)), (mA 10, .inl (cZ, 3600, .inl bl))] → va_S A H0 H locs → lv_has ls 4 [(0, .ref (mA 0))] → W p l e ({ frames := 0, cells := 0, slots := 0, locals := 0 }) s m args below meth c H locs 0 0 Q (F0 m 194 ls [])) : ∀ (d : Nat) (m0 : Nat) (bl : Nat → Int32) (H : Heap) (locs : List Loc) (ls : Array Slot), (m0 + d = mx_n T) → (tu_B T nn m0 bl) → va_P (dC, dI) vwCl [(mA 0, .inr (4, [.int th, .ref (mA 1), .ref (mA 2), .ref (mA 3), .int (nI (mx_n T)), .int (nI (mx_m F)), .ref (mA 4), .ref (mA 5), .ref (mA 6), .ref (mA 7), .ref (mA 8), .ref (mA 9), .int jo, .ref (mA 10), .ref (mA 11)])), (mA 1, .inl (cZ, 16, .inl isb)), (mA 3, .inl (cI, 16, .inl pls)), (mA 4, .inl (cI, 60, .inl msg)), (mA 5, .inl (cI, 180, .inl at_)), (mA 9, .inl (cI, 60, .inl le)), (mA 10, .inl (cZ, 3600, .inl bl))] H → va_D A [(mA 0, .inr (4, [.int th, .ref (mA 1), .ref (mA 2), .ref (mA 3), .int (nI (mx_n T)), .int (nI (mx_m F)), .ref (mA 4), .ref (mA 5), .ref (mA 6), .ref (mA 7), .ref (mA 8), .ref (mA 9), .int jo, .ref (mA 10), .ref (mA 11)])), (mA 1, .inl (cZ, 16, .inl isb)), (mA 3, .inl (cI, 16, .inl pls)), (mA 4, .inl (cI, 60, .inl msg)), (mA 5, .inl (cI, 180, .inl at_)), (mA 9, .inl (cI, 60, .inl le)), (mA 10, .inl (cZ, 3600, .inl bl))] → va_S A H0 H locs → lv_has ls 4 [(0, .ref (mA 0)), (1, .int (nI m0))] → W p l e ({ frames := 0, cells := 0, slots := 0, locals := 0 }) s m args below meth c H locs 0 0 Q (F0 m 108 ls []) := by
  intro d
  induction d with
  | zero =>
    intro m0 bl H locs ls hd hI hP hD hS hl
    refine lv_iload_n hx hb dX4_turns_108 rfl (lv_at hl 1 rfl) ?_
    refine lv_aload_n hx hb dX4_turns_109 rfl (lv_at hl 0 rfl) ?_
    refine va_get (D := (dC, dI)) (ci := 4) (v := .int (nI (mx_n T))) (C := RX4) (T := TX4) (N := 15) hx hb hts (fun w h => woX4_turns w (inX4 w h)) hown hK hP 0 rfl rfl 4 (by decide) (hts _ (woX4_turns _ wd_497)) (fun _ h9 => h9) rfl dX4_turns_110 ?_
    refine lv_icmp_ge (tgt := 194) hx hb dX4_turns_113 (by decide) (fun c1 => ?_) (fun c1 => ?_)
    · have e : m0 = mx_n T := by omega
      rw [e] at hI
      refine kk bl _ _ _ hI hP hD hS (lv_sub hl [0] rfl)
    · exact absurd (nI_le (a := mx_n T) (b := m0) (by omega) (by omega)) c1
  | succ d ih =>
    intro m0 bl H locs ls hd hI hP hD hS hl
    have hm0 : m0 < mx_n T := by omega
    refine lv_iload_n hx hb dX4_turns_108 rfl (lv_at hl 1 rfl) ?_
    refine lv_aload_n hx hb dX4_turns_109 rfl (lv_at hl 0 rfl) ?_
    refine va_get (D := (dC, dI)) (ci := 4) (v := .int (nI (mx_n T))) (C := RX4) (T := TX4) (N := 15) hx hb hts (fun w h => woX4_turns w (inX4 w h)) hown hK hP 0 rfl rfl 4 (by decide) (hts _ (woX4_turns _ wd_497)) (fun _ h9 => h9) rfl dX4_turns_110 ?_
    refine lv_icmp_ge (tgt := 194) hx hb dX4_turns_113 (by decide) (fun c1 => ?_) (fun c1 => ?_)
    · exact absurd c1 (nI_ge hm0 (by omega))
    · refine lv_iconst (v := 0) hx hb dX4_turns_116 (by decide) ?_
      refine lv_istore_n (lv' := [(2, .int 0), (0, .ref (mA 0)), (1, .int (nI m0))]) hx hb dX4_turns_117 rfl hl (by decide) rfl (fun ls hl => ?_)
      refine tu_5 hx hb hown hts hK hw hpf hn hmt h hm0 hA hml (fun bl6 H locs ls hI6 hP hD hS hl => ?_) (mx_n T) 0 bl _ _ _ (by omega) (tu_C0 hI.1) hP hD hS (lv_sub hl [1, 2, 0] rfl)
      obtain ⟨y_1, ey_1⟩ : ∃ y9 : Int32, y9 = (nI m0) + 1 := ⟨_, rfl⟩
      refine lv_iinc (v := y_1) (lv' := [(1, .int y_1), (0, .ref (mA 0))]) hx hb dX4_turns_188 hl (k := 1) rfl (by rw [ey_1]; rfl) (by decide) rfl (fun ls hl => ?_)
      refine lv_goto (tgt := 108) hx hb dX4_turns_191 (by decide) ?_
      rw [ey_1, nI_1] at hl
      refine ih (m0 + 1) bl6 _ _ _ (by omega) (tu_B_s hI hm0 hI6) hP hD hS (lv_sub hl [1, 0] rfl)

set_option maxHeartbeats 4000000 in
set_option maxRecDepth 100000 in
theorem tu_3 {p : Program} {l : Launch} {e : Env} {s : State} {m : MethodId} {args : Array Value} {below : List Frame} {meth : Method} {c : Code} {Q : State → Prop} (hx : p.tables.exec = Jvm.exec) (hb : c.code = cX4_turns) (hown : s.vm.findClass RX4 = some m.cls) (hts : ∀ w ∈ wsX4_turns, w.before args s = true) {dC : Nat → ClassId} {dI : Nat → Nat → Nat} {cI cJ cZ : ClassId} (hK : va_K (dC, dI) vwCl [(cI, .int), (cJ, .long), (cZ, .boolean)] s) {T : mx_T} {F : mx_F} {nn : Nat → Nat} {mA : Nat → Nat} {th : Int32} {jo : Int32} {isb : Nat → Int32} {pls : Nat → Int32} {msg : Nat → Int32} {at_ : Nat → Int32} {le : Nat → Int32} {t : Nat} (hw : mx_wf T) (hpf : mx_pf T) (hn : mx_n T ≤ 60) (hmt : md_T T isb pls msg at_) (h : md_L T nn le) (ht : t < mx_n T) {A : Nat → Prop} {H0 : Heap} (hA : ∀ q : Nat, H0.size ≤ q → A q) (hml : c.maxLocals = 4) (kk : ∀ (bl : Nat → Int32) (H : Heap) (locs : List Loc) (ls : Array Slot), (tu_A T nn (t + 1) 0 bl) → va_P (dC, dI) vwCl [(mA 0, .inr (4, [.int th, .ref (mA 1), .ref (mA 2), .ref (mA 3), .int (nI (mx_n T)), .int (nI (mx_m F)), .ref (mA 4), .ref (mA 5), .ref (mA 6), .ref (mA 7), .ref (mA 8), .ref (mA 9), .int jo, .ref (mA 10), .ref (mA 11)])), (mA 1, .inl (cZ, 16, .inl isb)), (mA 3, .inl (cI, 16, .inl pls)), (mA 4, .inl (cI, 60, .inl msg)), (mA 5, .inl (cI, 180, .inl at_)), (mA 9, .inl (cI, 60, .inl le)), (mA 10, .inl (cZ, 3600, .inl bl))] H → va_D A [(mA 0, .inr (4, [.int th, .ref (mA 1), .ref (mA 2), .ref (mA 3), .int (nI (mx_n T)), .int (nI (mx_m F)), .ref (mA 4), .ref (mA 5), .ref (mA 6), .ref (mA 7), .ref (mA 8), .ref (mA 9), .int jo, .ref (mA 10), .ref (mA 11)])), (mA 1, .inl (cZ, 16, .inl isb)), (mA 3, .inl (cI, 16, .inl pls)), (mA 4, .inl (cI, 60, .inl msg)), (mA 5, .inl (cI, 180, .inl at_)), (mA 9, .inl (cI, 60, .inl le)), (mA 10, .inl (cZ, 3600, .inl bl))] → va_S A H0 H locs → lv_has ls 4 [(0, .ref (mA 0)), (1, .int (nI t))] → W p l e ({ frames := 0, cells := 0, slots := 0, locals := 0 }) s m args below meth c H locs 0 0 Q (F0 m 100 ls [])) : ∀ (d : Nat) (j : Nat) (bl : Nat → Int32) (H : Heap) (locs : List Loc) (ls : Array Slot), (j + d = mx_ar (mx_pl T) t) → (tu_A T nn t j bl) → va_P (dC, dI) vwCl [(mA 0, .inr (4, [.int th, .ref (mA 1), .ref (mA 2), .ref (mA 3), .int (nI (mx_n T)), .int (nI (mx_m F)), .ref (mA 4), .ref (mA 5), .ref (mA 6), .ref (mA 7), .ref (mA 8), .ref (mA 9), .int jo, .ref (mA 10), .ref (mA 11)])), (mA 1, .inl (cZ, 16, .inl isb)), (mA 3, .inl (cI, 16, .inl pls)), (mA 4, .inl (cI, 60, .inl msg)), (mA 5, .inl (cI, 180, .inl at_)), (mA 9, .inl (cI, 60, .inl le)), (mA 10, .inl (cZ, 3600, .inl bl))] H → va_D A [(mA 0, .inr (4, [.int th, .ref (mA 1), .ref (mA 2), .ref (mA 3), .int (nI (mx_n T)), .int (nI (mx_m F)), .ref (mA 4), .ref (mA 5), .ref (mA 6), .ref (mA 7), .ref (mA 8), .ref (mA 9), .int jo, .ref (mA 10), .ref (mA 11)])), (mA 1, .inl (cZ, 16, .inl isb)), (mA 3, .inl (cI, 16, .inl pls)), (mA 4, .inl (cI, 60, .inl msg)), (mA 5, .inl (cI, 180, .inl at_)), (mA 9, .inl (cI, 60, .inl le)), (mA 10, .inl (cZ, 3600, .inl bl))] → va_S A H0 H locs → lv_has ls 4 [(0, .ref (mA 0)), (1, .int (nI t)), (2, .int (nI j))] → W p l e ({ frames := 0, cells := 0, slots := 0, locals := 0 }) s m args below meth c H locs 0 0 Q (F0 m 34 ls []) := by
  intro d
  induction d with
  | zero =>
    intro j bl H locs ls hd hI hP hD hS hl
    have h3 := mx_ar_le (mx_pl T) t
    obtain ⟨e1, e2, e3, e4⟩ := hmt.1 t ht
    have nt := h.2 t ht
    refine lv_aload_n hx hb dX4_turns_34 rfl (lv_at hl 0 rfl) ?_
    refine va_get (D := (dC, dI)) (ci := 4) (v := .ref (mA 1)) (C := RX4) (T := TX4) (N := 15) hx hb hts (fun w h => woX4_turns w (inX4 w h)) hown hK hP 0 rfl rfl 1 (by decide) (hts _ (woX4_turns _ wd_494)) (fun _ h9 => h9) rfl dX4_turns_35 ?_
    refine lv_aload_n hx hb dX4_turns_38 rfl (lv_at hl 0 rfl) ?_
    refine va_get (D := (dC, dI)) (ci := 4) (v := .ref (mA 4)) (C := RX4) (T := TX4) (N := 15) hx hb hts (fun w h => woX4_turns w (inX4 w h)) hown hK hP 0 rfl rfl 6 (by decide) (hts _ (woX4_turns _ wd_499)) (fun _ h9 => h9) rfl dX4_turns_39 ?_
    refine lv_iload_n hx hb dX4_turns_42 rfl (lv_at hl 1 rfl) ?_
    refine va_iald hx hb hK hP 3 0 rfl rfl (vp_in_nI (by omega) (by omega)) dX4_turns_43 ?_
    rw [show (nI t).toNatClampNeg = t from nI_clamp (by omega)]
    rw [e1]
    refine va_zald hx hb hK hP 1 2 rfl rfl (vp_in_nI (by omega) (by omega)) dX4_turns_44 ?_
    rw [show (nI (mx_sg T t)).toNatClampNeg = (mx_sg T t) from nI_clamp (by omega)]
    rw [e4]
    refine lv_if_eq (tgt := 100) hx hb dX4_turns_45 (by decide) (fun c1 => ?_) (fun c1 => ?_)
    · refine kk bl _ _ _ (tu_next hI (fun z => by rw [if_pos z] at c1; exact absurd c1 (by decide))) hP hD hS (lv_sub hl [0, 1] rfl)
    · have hbt : mx_bu T t = true := Classical.byContradiction fun z => c1 (if_neg z)
      refine lv_iload_n hx hb dX4_turns_48 rfl (lv_at hl 2 rfl) ?_
      refine lv_aload_n hx hb dX4_turns_49 rfl (lv_at hl 0 rfl) ?_
      refine va_get (D := (dC, dI)) (ci := 4) (v := .ref (mA 3)) (C := RX4) (T := TX4) (N := 15) hx hb hts (fun w h => woX4_turns w (inX4 w h)) hown hK hP 0 rfl rfl 3 (by decide) (hts _ (woX4_turns _ wd_496)) (fun _ h9 => h9) rfl dX4_turns_50 ?_
      refine lv_aload_n hx hb dX4_turns_53 rfl (lv_at hl 0 rfl) ?_
      refine va_get (D := (dC, dI)) (ci := 4) (v := .ref (mA 4)) (C := RX4) (T := TX4) (N := 15) hx hb hts (fun w h => woX4_turns w (inX4 w h)) hown hK hP 0 rfl rfl 6 (by decide) (hts _ (woX4_turns _ wd_499)) (fun _ h9 => h9) rfl dX4_turns_54 ?_
      refine lv_iload_n hx hb dX4_turns_57 rfl (lv_at hl 1 rfl) ?_
      refine va_iald hx hb hK hP 3 0 rfl rfl (vp_in_nI (by omega) (by omega)) dX4_turns_58 ?_
      rw [show (nI t).toNatClampNeg = t from nI_clamp (by omega)]
      rw [e1]
      refine va_iald hx hb hK hP 2 0 rfl rfl (vp_in_nI (by omega) (by omega)) dX4_turns_59 ?_
      rw [show (nI (mx_sg T t)).toNatClampNeg = (mx_sg T t) from nI_clamp (by omega)]
      rw [e3]
      refine lv_icmp_ge (tgt := 100) hx hb dX4_turns_60 (by decide) (fun c2 => ?_) (fun c2 => ?_)
      · refine kk bl _ _ _ (tu_next hI (fun _ i k hi hp => ?_)) hP hD hS (lv_sub hl [0, 1] rfl)
        rcases Nat.lt_or_ge i (mx_ar (mx_pl T) t) with z | z
        · omega
        · rw [(mx_ar_iff hpf ht hi).mpr z] at hp; cases hp
      · exact absurd (nI_le (a := mx_ar (mx_pl T) t) (b := j) (by omega) (by omega)) c2
  | succ d ih =>
    intro j bl H locs ls hd hI hP hD hS hl
    have h3 := mx_ar_le (mx_pl T) t
    obtain ⟨e1, e2, e3, e4⟩ := hmt.1 t ht
    have nt := h.2 t ht
    refine lv_aload_n hx hb dX4_turns_34 rfl (lv_at hl 0 rfl) ?_
    refine va_get (D := (dC, dI)) (ci := 4) (v := .ref (mA 1)) (C := RX4) (T := TX4) (N := 15) hx hb hts (fun w h => woX4_turns w (inX4 w h)) hown hK hP 0 rfl rfl 1 (by decide) (hts _ (woX4_turns _ wd_494)) (fun _ h9 => h9) rfl dX4_turns_35 ?_
    refine lv_aload_n hx hb dX4_turns_38 rfl (lv_at hl 0 rfl) ?_
    refine va_get (D := (dC, dI)) (ci := 4) (v := .ref (mA 4)) (C := RX4) (T := TX4) (N := 15) hx hb hts (fun w h => woX4_turns w (inX4 w h)) hown hK hP 0 rfl rfl 6 (by decide) (hts _ (woX4_turns _ wd_499)) (fun _ h9 => h9) rfl dX4_turns_39 ?_
    refine lv_iload_n hx hb dX4_turns_42 rfl (lv_at hl 1 rfl) ?_
    refine va_iald hx hb hK hP 3 0 rfl rfl (vp_in_nI (by omega) (by omega)) dX4_turns_43 ?_
    rw [show (nI t).toNatClampNeg = t from nI_clamp (by omega)]
    rw [e1]
    refine va_zald hx hb hK hP 1 2 rfl rfl (vp_in_nI (by omega) (by omega)) dX4_turns_44 ?_
    rw [show (nI (mx_sg T t)).toNatClampNeg = (mx_sg T t) from nI_clamp (by omega)]
    rw [e4]
    refine lv_if_eq (tgt := 100) hx hb dX4_turns_45 (by decide) (fun c1 => ?_) (fun c1 => ?_)
    · refine kk bl _ _ _ (tu_next hI (fun z => by rw [if_pos z] at c1; exact absurd c1 (by decide))) hP hD hS (lv_sub hl [0, 1] rfl)
    · have hbt : mx_bu T t = true := Classical.byContradiction fun z => c1 (if_neg z)
      refine lv_iload_n hx hb dX4_turns_48 rfl (lv_at hl 2 rfl) ?_
      refine lv_aload_n hx hb dX4_turns_49 rfl (lv_at hl 0 rfl) ?_
      refine va_get (D := (dC, dI)) (ci := 4) (v := .ref (mA 3)) (C := RX4) (T := TX4) (N := 15) hx hb hts (fun w h => woX4_turns w (inX4 w h)) hown hK hP 0 rfl rfl 3 (by decide) (hts _ (woX4_turns _ wd_496)) (fun _ h9 => h9) rfl dX4_turns_50 ?_
      refine lv_aload_n hx hb dX4_turns_53 rfl (lv_at hl 0 rfl) ?_
      refine va_get (D := (dC, dI)) (ci := 4) (v := .ref (mA 4)) (C := RX4) (T := TX4) (N := 15) hx hb hts (fun w h => woX4_turns w (inX4 w h)) hown hK hP 0 rfl rfl 6 (by decide) (hts _ (woX4_turns _ wd_499)) (fun _ h9 => h9) rfl dX4_turns_54 ?_
      refine lv_iload_n hx hb dX4_turns_57 rfl (lv_at hl 1 rfl) ?_
      refine va_iald hx hb hK hP 3 0 rfl rfl (vp_in_nI (by omega) (by omega)) dX4_turns_58 ?_
      rw [show (nI t).toNatClampNeg = t from nI_clamp (by omega)]
      rw [e1]
      refine va_iald hx hb hK hP 2 0 rfl rfl (vp_in_nI (by omega) (by omega)) dX4_turns_59 ?_
      rw [show (nI (mx_sg T t)).toNatClampNeg = (mx_sg T t) from nI_clamp (by omega)]
      rw [e3]
      refine lv_icmp_ge (tgt := 100) hx hb dX4_turns_60 (by decide) (fun c2 => ?_) (fun c2 => ?_)
      · exact absurd c2 (nI_ge (show j < mx_ar (mx_pl T) t by omega) (by omega))
      · have hja : j < mx_ar (mx_pl T) t := by omega
        obtain ⟨p0, hp0⟩ := mx_ar_some hpf ht hja
        have lp : p0 < mx_n T := Nat.lt_trans (hw.1 t j p0 ht hp0) ht
        have ax : at_ (3 * t + j) = nI p0 := by rw [hmt.2 t j ht (by omega), hp0]; rfl
        have np := h.2 p0 lp
        refine lv_aload_n hx hb dX4_turns_63 rfl (lv_at hl 0 rfl) ?_
        refine va_get (D := (dC, dI)) (ci := 4) (v := .ref (mA 10)) (C := RX4) (T := TX4) (N := 15) hx hb hts (fun w h => woX4_turns w (inX4 w h)) hown hK hP 0 rfl rfl 13 (by decide) (hts _ (woX4_turns _ wd_506)) (fun _ h9 => h9) rfl dX4_turns_64 ?_
        refine lv_bipush (v := 60) hx hb dX4_turns_67 (by decide) ?_
        refine lv_aload_n hx hb dX4_turns_69 rfl (lv_at hl 0 rfl) ?_
        refine va_get (D := (dC, dI)) (ci := 4) (v := .ref (mA 9)) (C := RX4) (T := TX4) (N := 15) hx hb hts (fun w h => woX4_turns w (inX4 w h)) hown hK hP 0 rfl rfl 11 (by decide) (hts _ (woX4_turns _ wd_504)) (fun _ h9 => h9) rfl dX4_turns_70 ?_
        refine lv_iload_n hx hb dX4_turns_73 rfl (lv_at hl 1 rfl) ?_
        refine va_iald hx hb hK hP 5 0 rfl rfl (vp_in_nI (by omega) (by omega)) dX4_turns_74 ?_
        rw [show (nI t).toNatClampNeg = t from nI_clamp (by omega)]
        rw [h.1 t ht]
        refine lv_imul hx hb dX4_turns_75 ?_
        refine lv_aload_n hx hb dX4_turns_76 rfl (lv_at hl 0 rfl) ?_
        refine va_get (D := (dC, dI)) (ci := 4) (v := .ref (mA 9)) (C := RX4) (T := TX4) (N := 15) hx hb hts (fun w h => woX4_turns w (inX4 w h)) hown hK hP 0 rfl rfl 11 (by decide) (hts _ (woX4_turns _ wd_504)) (fun _ h9 => h9) rfl dX4_turns_77 ?_
        refine lv_aload_n hx hb dX4_turns_80 rfl (lv_at hl 0 rfl) ?_
        refine va_get (D := (dC, dI)) (ci := 4) (v := .ref (mA 5)) (C := RX4) (T := TX4) (N := 15) hx hb hts (fun w h => woX4_turns w (inX4 w h)) hown hK hP 0 rfl rfl 7 (by decide) (hts _ (woX4_turns _ wd_500)) (fun _ h9 => h9) rfl dX4_turns_81 ?_
        refine lv_iconst (v := 3) hx hb dX4_turns_84 (by decide) ?_
        refine lv_iload_n hx hb dX4_turns_85 rfl (lv_at hl 1 rfl) ?_
        refine lv_imul hx hb dX4_turns_86 ?_
        refine lv_iload_n hx hb dX4_turns_87 rfl (lv_at hl 2 rfl) ?_
        refine lv_iadd hx hb dX4_turns_88 ?_
        rw [ix3]
        refine va_iald hx hb hK hP 4 0 rfl rfl (vp_in_nI (by omega) (by omega)) dX4_turns_89 ?_
        rw [show (nI (3 * t + j)).toNatClampNeg = (3 * t + j) from nI_clamp (by omega)]
        rw [ax]
        refine va_iald hx hb hK hP 5 0 rfl rfl (vp_in_nI (by omega) (by omega)) dX4_turns_90 ?_
        rw [show (nI p0).toNatClampNeg = p0 from nI_clamp (by omega)]
        rw [h.1 p0 lp]
        refine lv_iadd hx hb dX4_turns_91 ?_
        rw [ix60]
        refine lv_iconst (v := 1) hx hb dX4_turns_92 (by decide) ?_
        refine va_zast hx hb hK hP hD hS 6 2 rfl rfl (vp_in_nI (by omega) (by omega)) dX4_turns_93 (fun H locs hP hD hS => ?_)
        rw [show (nI (60 * (nn t) + (nn p0))).toNatClampNeg = (60 * (nn t) + (nn p0)) from nI_clamp (by omega)] at hP hD
        rw [show vp_nar .boolean 1 = 1 from by decide] at hP hD
        have hP : va_P (dC, dI) vwCl [(mA 0, .inr (4, [.int th, .ref (mA 1), .ref (mA 2), .ref (mA 3), .int (nI (mx_n T)), .int (nI (mx_m F)), .ref (mA 4), .ref (mA 5), .ref (mA 6), .ref (mA 7), .ref (mA 8), .ref (mA 9), .int jo, .ref (mA 10), .ref (mA 11)])), (mA 1, .inl (cZ, 16, .inl isb)), (mA 3, .inl (cI, 16, .inl pls)), (mA 4, .inl (cI, 60, .inl msg)), (mA 5, .inl (cI, 180, .inl at_)), (mA 9, .inl (cI, 60, .inl le)), (mA 10, .inl (cZ, 3600, .inl (upd bl (60 * (nn t) + (nn p0)) 1)))] H := hP
        have hD : va_D A [(mA 0, .inr (4, [.int th, .ref (mA 1), .ref (mA 2), .ref (mA 3), .int (nI (mx_n T)), .int (nI (mx_m F)), .ref (mA 4), .ref (mA 5), .ref (mA 6), .ref (mA 7), .ref (mA 8), .ref (mA 9), .int jo, .ref (mA 10), .ref (mA 11)])), (mA 1, .inl (cZ, 16, .inl isb)), (mA 3, .inl (cI, 16, .inl pls)), (mA 4, .inl (cI, 60, .inl msg)), (mA 5, .inl (cI, 180, .inl at_)), (mA 9, .inl (cI, 60, .inl le)), (mA 10, .inl (cZ, 3600, .inl (upd bl (60 * (nn t) + (nn p0)) 1)))] := hD
        obtain ⟨y_1, ey_1⟩ : ∃ y9 : Int32, y9 = (nI j) + 1 := ⟨_, rfl⟩
        refine lv_iinc (v := y_1) (lv' := [(2, .int y_1), (0, .ref (mA 0)), (1, .int (nI t))]) hx hb dX4_turns_94 hl (k := 2) rfl (by rw [ey_1]; rfl) (by decide) rfl (fun ls hl => ?_)
        refine lv_goto (tgt := 34) hx hb dX4_turns_97 (by decide) ?_
        rw [ey_1, nI_1] at hl
        refine ih (j + 1) (upd bl (60 * (nn t) + (nn p0)) 1) _ _ _ (by omega) (tu_set hI hbt (by omega) hp0 (by omega)) hP hD hS (lv_sub hl [1, 2, 0] rfl)

set_option maxHeartbeats 4000000 in
set_option maxRecDepth 100000 in
theorem tu_2 {p : Program} {l : Launch} {e : Env} {s : State} {m : MethodId} {args : Array Value} {below : List Frame} {meth : Method} {c : Code} {Q : State → Prop} (hx : p.tables.exec = Jvm.exec) (hb : c.code = cX4_turns) (hown : s.vm.findClass RX4 = some m.cls) (hts : ∀ w ∈ wsX4_turns, w.before args s = true) {dC : Nat → ClassId} {dI : Nat → Nat → Nat} {cI cJ cZ : ClassId} (hK : va_K (dC, dI) vwCl [(cI, .int), (cJ, .long), (cZ, .boolean)] s) {T : mx_T} {F : mx_F} {nn : Nat → Nat} {mA : Nat → Nat} {th : Int32} {jo : Int32} {isb : Nat → Int32} {pls : Nat → Int32} {msg : Nat → Int32} {at_ : Nat → Int32} {le : Nat → Int32} (hw : mx_wf T) (hpf : mx_pf T) (hn : mx_n T ≤ 60) (hmt : md_T T isb pls msg at_) (h : md_L T nn le) {A : Nat → Prop} {H0 : Heap} (hA : ∀ q : Nat, H0.size ≤ q → A q) (hml : c.maxLocals = 4) (kk : ∀ (bl : Nat → Int32) (H : Heap) (locs : List Loc) (ls : Array Slot), (tu_A T nn (mx_n T) 0 bl) → va_P (dC, dI) vwCl [(mA 0, .inr (4, [.int th, .ref (mA 1), .ref (mA 2), .ref (mA 3), .int (nI (mx_n T)), .int (nI (mx_m F)), .ref (mA 4), .ref (mA 5), .ref (mA 6), .ref (mA 7), .ref (mA 8), .ref (mA 9), .int jo, .ref (mA 10), .ref (mA 11)])), (mA 1, .inl (cZ, 16, .inl isb)), (mA 3, .inl (cI, 16, .inl pls)), (mA 4, .inl (cI, 60, .inl msg)), (mA 5, .inl (cI, 180, .inl at_)), (mA 9, .inl (cI, 60, .inl le)), (mA 10, .inl (cZ, 3600, .inl bl))] H → va_D A [(mA 0, .inr (4, [.int th, .ref (mA 1), .ref (mA 2), .ref (mA 3), .int (nI (mx_n T)), .int (nI (mx_m F)), .ref (mA 4), .ref (mA 5), .ref (mA 6), .ref (mA 7), .ref (mA 8), .ref (mA 9), .int jo, .ref (mA 10), .ref (mA 11)])), (mA 1, .inl (cZ, 16, .inl isb)), (mA 3, .inl (cI, 16, .inl pls)), (mA 4, .inl (cI, 60, .inl msg)), (mA 5, .inl (cI, 180, .inl at_)), (mA 9, .inl (cI, 60, .inl le)), (mA 10, .inl (cZ, 3600, .inl bl))] → va_S A H0 H locs → lv_has ls 4 [(0, .ref (mA 0))] → W p l e ({ frames := 0, cells := 0, slots := 0, locals := 0 }) s m args below meth c H locs 0 0 Q (F0 m 106 ls [])) : ∀ (d : Nat) (t : Nat) (bl : Nat → Int32) (H : Heap) (locs : List Loc) (ls : Array Slot), (t + d = mx_n T) → (tu_A T nn t 0 bl) → va_P (dC, dI) vwCl [(mA 0, .inr (4, [.int th, .ref (mA 1), .ref (mA 2), .ref (mA 3), .int (nI (mx_n T)), .int (nI (mx_m F)), .ref (mA 4), .ref (mA 5), .ref (mA 6), .ref (mA 7), .ref (mA 8), .ref (mA 9), .int jo, .ref (mA 10), .ref (mA 11)])), (mA 1, .inl (cZ, 16, .inl isb)), (mA 3, .inl (cI, 16, .inl pls)), (mA 4, .inl (cI, 60, .inl msg)), (mA 5, .inl (cI, 180, .inl at_)), (mA 9, .inl (cI, 60, .inl le)), (mA 10, .inl (cZ, 3600, .inl bl))] H → va_D A [(mA 0, .inr (4, [.int th, .ref (mA 1), .ref (mA 2), .ref (mA 3), .int (nI (mx_n T)), .int (nI (mx_m F)), .ref (mA 4), .ref (mA 5), .ref (mA 6), .ref (mA 7), .ref (mA 8), .ref (mA 9), .int jo, .ref (mA 10), .ref (mA 11)])), (mA 1, .inl (cZ, 16, .inl isb)), (mA 3, .inl (cI, 16, .inl pls)), (mA 4, .inl (cI, 60, .inl msg)), (mA 5, .inl (cI, 180, .inl at_)), (mA 9, .inl (cI, 60, .inl le)), (mA 10, .inl (cZ, 3600, .inl bl))] → va_S A H0 H locs → lv_has ls 4 [(0, .ref (mA 0)), (1, .int (nI t))] → W p l e ({ frames := 0, cells := 0, slots := 0, locals := 0 }) s m args below meth c H locs 0 0 Q (F0 m 24 ls []) := by
  intro d
  induction d with
  | zero =>
    intro t bl H locs ls hd hI hP hD hS hl
    refine lv_iload_n hx hb dX4_turns_24 rfl (lv_at hl 1 rfl) ?_
    refine lv_aload_n hx hb dX4_turns_25 rfl (lv_at hl 0 rfl) ?_
    refine va_get (D := (dC, dI)) (ci := 4) (v := .int (nI (mx_n T))) (C := RX4) (T := TX4) (N := 15) hx hb hts (fun w h => woX4_turns w (inX4 w h)) hown hK hP 0 rfl rfl 4 (by decide) (hts _ (woX4_turns _ wd_497)) (fun _ h9 => h9) rfl dX4_turns_26 ?_
    refine lv_icmp_ge (tgt := 106) hx hb dX4_turns_29 (by decide) (fun c1 => ?_) (fun c1 => ?_)
    · have e : t = mx_n T := by omega
      rw [e] at hI
      refine kk bl _ _ _ hI hP hD hS (lv_sub hl [0] rfl)
    · exact absurd (nI_le (a := mx_n T) (b := t) (by omega) (by omega)) c1
  | succ d ih =>
    intro t bl H locs ls hd hI hP hD hS hl
    have ht : t < mx_n T := by omega
    refine lv_iload_n hx hb dX4_turns_24 rfl (lv_at hl 1 rfl) ?_
    refine lv_aload_n hx hb dX4_turns_25 rfl (lv_at hl 0 rfl) ?_
    refine va_get (D := (dC, dI)) (ci := 4) (v := .int (nI (mx_n T))) (C := RX4) (T := TX4) (N := 15) hx hb hts (fun w h => woX4_turns w (inX4 w h)) hown hK hP 0 rfl rfl 4 (by decide) (hts _ (woX4_turns _ wd_497)) (fun _ h9 => h9) rfl dX4_turns_26 ?_
    refine lv_icmp_ge (tgt := 106) hx hb dX4_turns_29 (by decide) (fun c1 => ?_) (fun c1 => ?_)
    · exact absurd c1 (nI_ge ht (by omega))
    · refine lv_iconst (v := 0) hx hb dX4_turns_32 (by decide) ?_
      refine lv_istore_n (lv' := [(2, .int 0), (0, .ref (mA 0)), (1, .int (nI t))]) hx hb dX4_turns_33 rfl hl (by decide) rfl (fun ls hl => ?_)
      refine tu_3 hx hb hown hts hK hw hpf hn hmt h ht hA hml (fun bl6 H locs ls hI6 hP hD hS hl => ?_) (mx_ar (mx_pl T) t) 0 bl _ _ _ (by omega) hI hP hD hS (lv_sub hl [1, 2, 0] rfl)
      obtain ⟨y_1, ey_1⟩ : ∃ y9 : Int32, y9 = (nI t) + 1 := ⟨_, rfl⟩
      refine lv_iinc (v := y_1) (lv' := [(1, .int y_1), (0, .ref (mA 0))]) hx hb dX4_turns_100 hl (k := 1) rfl (by rw [ey_1]; rfl) (by decide) rfl (fun ls hl => ?_)
      refine lv_goto (tgt := 24) hx hb dX4_turns_103 (by decide) ?_
      rw [ey_1, nI_1] at hl
      refine ih (t + 1) bl6 _ _ _ (by omega) hI6 hP hD hS (lv_sub hl [1, 0] rfl)

set_option maxHeartbeats 4000000 in
set_option maxRecDepth 100000 in
theorem tu_1 {p : Program} {l : Launch} {e : Env} {s : State} {m : MethodId} {args : Array Value} {below : List Frame} {meth : Method} {c : Code} {Q : State → Prop} (hx : p.tables.exec = Jvm.exec) (hb : c.code = cX4_turns) (hown : s.vm.findClass RX4 = some m.cls) (hts : ∀ w ∈ wsX4_turns, w.before args s = true) {dC : Nat → ClassId} {dI : Nat → Nat → Nat} {cI cJ cZ : ClassId} (hK : va_K (dC, dI) vwCl [(cI, .int), (cJ, .long), (cZ, .boolean)] s) {T : mx_T} {F : mx_F} {nn : Nat → Nat} {mA : Nat → Nat} {th : Int32} {jo : Int32} {isb : Nat → Int32} {pls : Nat → Int32} {msg : Nat → Int32} {at_ : Nat → Int32} {le : Nat → Int32} (hw : mx_wf T) (hpf : mx_pf T) (hn : mx_n T ≤ 60) (hmt : md_T T isb pls msg at_) (h : md_L T nn le) {A : Nat → Prop} {H0 : Heap} (hA : ∀ q : Nat, H0.size ≤ q → A q) (hml : c.maxLocals = 4) (kk : ∀ (bl : Nat → Int32) (H : Heap) (locs : List Loc) (ls : Array Slot), (∀ i, i < 3600 → bl i = 0) → va_P (dC, dI) vwCl [(mA 0, .inr (4, [.int th, .ref (mA 1), .ref (mA 2), .ref (mA 3), .int (nI (mx_n T)), .int (nI (mx_m F)), .ref (mA 4), .ref (mA 5), .ref (mA 6), .ref (mA 7), .ref (mA 8), .ref (mA 9), .int jo, .ref (mA 10), .ref (mA 11)])), (mA 1, .inl (cZ, 16, .inl isb)), (mA 3, .inl (cI, 16, .inl pls)), (mA 4, .inl (cI, 60, .inl msg)), (mA 5, .inl (cI, 180, .inl at_)), (mA 9, .inl (cI, 60, .inl le)), (mA 10, .inl (cZ, 3600, .inl bl))] H → va_D A [(mA 0, .inr (4, [.int th, .ref (mA 1), .ref (mA 2), .ref (mA 3), .int (nI (mx_n T)), .int (nI (mx_m F)), .ref (mA 4), .ref (mA 5), .ref (mA 6), .ref (mA 7), .ref (mA 8), .ref (mA 9), .int jo, .ref (mA 10), .ref (mA 11)])), (mA 1, .inl (cZ, 16, .inl isb)), (mA 3, .inl (cI, 16, .inl pls)), (mA 4, .inl (cI, 60, .inl msg)), (mA 5, .inl (cI, 180, .inl at_)), (mA 9, .inl (cI, 60, .inl le)), (mA 10, .inl (cZ, 3600, .inl bl))] → va_S A H0 H locs → lv_has ls 4 [(0, .ref (mA 0))] → W p l e ({ frames := 0, cells := 0, slots := 0, locals := 0 }) s m args below meth c H locs 0 0 Q (F0 m 22 ls [])) : ∀ (d : Nat) (k : Nat) (bl : Nat → Int32) (H : Heap) (locs : List Loc) (ls : Array Slot), (k + d = 3600) → (∀ i, i < k → bl i = 0) → va_P (dC, dI) vwCl [(mA 0, .inr (4, [.int th, .ref (mA 1), .ref (mA 2), .ref (mA 3), .int (nI (mx_n T)), .int (nI (mx_m F)), .ref (mA 4), .ref (mA 5), .ref (mA 6), .ref (mA 7), .ref (mA 8), .ref (mA 9), .int jo, .ref (mA 10), .ref (mA 11)])), (mA 1, .inl (cZ, 16, .inl isb)), (mA 3, .inl (cI, 16, .inl pls)), (mA 4, .inl (cI, 60, .inl msg)), (mA 5, .inl (cI, 180, .inl at_)), (mA 9, .inl (cI, 60, .inl le)), (mA 10, .inl (cZ, 3600, .inl bl))] H → va_D A [(mA 0, .inr (4, [.int th, .ref (mA 1), .ref (mA 2), .ref (mA 3), .int (nI (mx_n T)), .int (nI (mx_m F)), .ref (mA 4), .ref (mA 5), .ref (mA 6), .ref (mA 7), .ref (mA 8), .ref (mA 9), .int jo, .ref (mA 10), .ref (mA 11)])), (mA 1, .inl (cZ, 16, .inl isb)), (mA 3, .inl (cI, 16, .inl pls)), (mA 4, .inl (cI, 60, .inl msg)), (mA 5, .inl (cI, 180, .inl at_)), (mA 9, .inl (cI, 60, .inl le)), (mA 10, .inl (cZ, 3600, .inl bl))] → va_S A H0 H locs → lv_has ls 4 [(0, .ref (mA 0)), (1, .int (nI k))] → W p l e ({ frames := 0, cells := 0, slots := 0, locals := 0 }) s m args below meth c H locs 0 0 Q (F0 m 2 ls []) := by
  intro d
  induction d with
  | zero =>
    intro k bl H locs ls hd hI hP hD hS hl
    refine lv_iload_n hx hb dX4_turns_2 rfl (lv_at hl 1 rfl) ?_
    refine lv_sipush (v := 3600) hx hb dX4_turns_3 (by decide) ?_
    refine lv_icmp_ge (tgt := 22) hx hb dX4_turns_6 (by decide) (fun c1 => ?_) (fun c1 => ?_)
    · have e : k = 3600 := by omega
      rw [e] at hI
      refine kk bl _ _ _ hI hP hD hS (lv_sub hl [0] rfl)
    · exact absurd (nI_le (a := 3600) (b := k) (by omega) (by omega)) c1
  | succ d ih =>
    intro k bl H locs ls hd hI hP hD hS hl
    have hk0 : k < 3600 := by omega
    refine lv_iload_n hx hb dX4_turns_2 rfl (lv_at hl 1 rfl) ?_
    refine lv_sipush (v := 3600) hx hb dX4_turns_3 (by decide) ?_
    refine lv_icmp_ge (tgt := 22) hx hb dX4_turns_6 (by decide) (fun c1 => ?_) (fun c1 => ?_)
    · exact absurd c1 (nI_ge (b := 3600) hk0 (by omega))
    · refine lv_aload_n hx hb dX4_turns_9 rfl (lv_at hl 0 rfl) ?_
      refine va_get (D := (dC, dI)) (ci := 4) (v := .ref (mA 10)) (C := RX4) (T := TX4) (N := 15) hx hb hts (fun w h => woX4_turns w (inX4 w h)) hown hK hP 0 rfl rfl 13 (by decide) (hts _ (woX4_turns _ wd_506)) (fun _ h9 => h9) rfl dX4_turns_10 ?_
      refine lv_iload_n hx hb dX4_turns_13 rfl (lv_at hl 1 rfl) ?_
      refine lv_iconst (v := 0) hx hb dX4_turns_14 (by decide) ?_
      refine va_zast hx hb hK hP hD hS 6 2 rfl rfl (vp_in_nI (by omega) (by omega)) dX4_turns_15 (fun H locs hP hD hS => ?_)
      rw [show (nI k).toNatClampNeg = k from nI_clamp (by omega)] at hP hD
      rw [show vp_nar .boolean 0 = 0 from by decide] at hP hD
      have hP : va_P (dC, dI) vwCl [(mA 0, .inr (4, [.int th, .ref (mA 1), .ref (mA 2), .ref (mA 3), .int (nI (mx_n T)), .int (nI (mx_m F)), .ref (mA 4), .ref (mA 5), .ref (mA 6), .ref (mA 7), .ref (mA 8), .ref (mA 9), .int jo, .ref (mA 10), .ref (mA 11)])), (mA 1, .inl (cZ, 16, .inl isb)), (mA 3, .inl (cI, 16, .inl pls)), (mA 4, .inl (cI, 60, .inl msg)), (mA 5, .inl (cI, 180, .inl at_)), (mA 9, .inl (cI, 60, .inl le)), (mA 10, .inl (cZ, 3600, .inl (upd bl k 0)))] H := hP
      have hD : va_D A [(mA 0, .inr (4, [.int th, .ref (mA 1), .ref (mA 2), .ref (mA 3), .int (nI (mx_n T)), .int (nI (mx_m F)), .ref (mA 4), .ref (mA 5), .ref (mA 6), .ref (mA 7), .ref (mA 8), .ref (mA 9), .int jo, .ref (mA 10), .ref (mA 11)])), (mA 1, .inl (cZ, 16, .inl isb)), (mA 3, .inl (cI, 16, .inl pls)), (mA 4, .inl (cI, 60, .inl msg)), (mA 5, .inl (cI, 180, .inl at_)), (mA 9, .inl (cI, 60, .inl le)), (mA 10, .inl (cZ, 3600, .inl (upd bl k 0)))] := hD
      obtain ⟨y_1, ey_1⟩ : ∃ y9 : Int32, y9 = (nI k) + 1 := ⟨_, rfl⟩
      refine lv_iinc (v := y_1) (lv' := [(1, .int y_1), (0, .ref (mA 0))]) hx hb dX4_turns_16 hl (k := 1) rfl (by rw [ey_1]; rfl) (by decide) rfl (fun ls hl => ?_)
      refine lv_goto (tgt := 2) hx hb dX4_turns_19 (by decide) ?_
      rw [ey_1, nI_1] at hl
      refine ih (k + 1) (upd bl k 0) _ _ _ (by omega) (fun i hi => ?_) hP hD hS (lv_sub hl [1, 0] rfl)
      by_cases z : i = k
      · subst z; exact pk_us
      · rw [pk_un z]; exact hI i (by omega)

set_option maxHeartbeats 4000000 in
set_option maxRecDepth 100000 in
/-- the reference: whether a term is below itself -/
theorem m_turns (l : Launch) (dC : Nat → ClassId) (dI : Nat → Nat → Nat) (cI cJ cZ : ClassId) (T : mx_T) (F : mx_F) (nn : Nat → Nat) (mA : Nat → Nat) (th : Int32) (jo : Int32) (isb : Nat → Int32) (pls : Nat → Int32) (msg : Nat → Int32) (at_ : Nat → Int32) (le : Nat → Int32) (bl : Nat → Int32) (sz : Nat) (hw : mx_wf T) (hpf : mx_pf T) (hn : mx_n T ≤ 60) (hmt : md_T T isb pls msg at_) (h : md_L T nn le) : Met l yX4_turns wsX4_turns ({ frames := 0, cells := 0, slots := 0, locals := 0 }) (va_Pc [.ref (mA 0)] (fun U => U.heap.size = sz ∧ va_P (dC, dI) vwCl [(mA 0, .inr (4, [.int th, .ref (mA 1), .ref (mA 2), .ref (mA 3), .int (nI (mx_n T)), .int (nI (mx_m F)), .ref (mA 4), .ref (mA 5), .ref (mA 6), .ref (mA 7), .ref (mA 8), .ref (mA 9), .int jo, .ref (mA 10), .ref (mA 11)])), (mA 1, .inl (cZ, 16, .inl isb)), (mA 3, .inl (cI, 16, .inl pls)), (mA 4, .inl (cI, 60, .inl msg)), (mA 5, .inl (cI, 180, .inl at_)), (mA 9, .inl (cI, 60, .inl le)), (mA 10, .inl (cZ, 3600, .inl bl))] U.heap ∧ va_K (dC, dI) vwCl [(cI, .int), (cJ, .long), (cZ, .boolean)] U ∧ va_D (fun _ => True) [(mA 0, .inr (4, [.int th, .ref (mA 1), .ref (mA 2), .ref (mA 3), .int (nI (mx_n T)), .int (nI (mx_m F)), .ref (mA 4), .ref (mA 5), .ref (mA 6), .ref (mA 7), .ref (mA 8), .ref (mA 9), .int jo, .ref (mA 10), .ref (mA 11)])), (mA 1, .inl (cZ, 16, .inl isb)), (mA 3, .inl (cI, 16, .inl pls)), (mA 4, .inl (cI, 60, .inl msg)), (mA 5, .inl (cI, 180, .inl at_)), (mA 9, .inl (cI, 60, .inl le)), (mA 10, .inl (cZ, 3600, .inl bl))])) (va_Qi (fun r u => zb r (mx_cC T nn)) (fun (u : Nat → Int32) t7 => match u with | bl2 => va_P (dC, dI) vwCl [(mA 0, .inr (4, [.int th, .ref (mA 1), .ref (mA 2), .ref (mA 3), .int (nI (mx_n T)), .int (nI (mx_m F)), .ref (mA 4), .ref (mA 5), .ref (mA 6), .ref (mA 7), .ref (mA 8), .ref (mA 9), .int jo, .ref (mA 10), .ref (mA 11)])), (mA 1, .inl (cZ, 16, .inl isb)), (mA 3, .inl (cI, 16, .inl pls)), (mA 4, .inl (cI, 60, .inl msg)), (mA 5, .inl (cI, 180, .inl at_)), (mA 9, .inl (cI, 60, .inl le)), (mA 10, .inl (cZ, 3600, .inl bl2))] t7.heap ∧ va_K (dC, dI) vwCl [(cI, .int), (cJ, .long), (cZ, .boolean)] t7 ∧ va_D (va_A [(mA 0, .inr (4, [.int th, .ref (mA 1), .ref (mA 2), .ref (mA 3), .int (nI (mx_n T)), .int (nI (mx_m F)), .ref (mA 4), .ref (mA 5), .ref (mA 6), .ref (mA 7), .ref (mA 8), .ref (mA 9), .int jo, .ref (mA 10), .ref (mA 11)])), (mA 1, .inl (cZ, 16, .inl isb)), (mA 3, .inl (cI, 16, .inl pls)), (mA 4, .inl (cI, 60, .inl msg)), (mA 5, .inl (cI, 180, .inl at_)), (mA 9, .inl (cI, 60, .inl le)), (mA 10, .inl (cZ, 3600, .inl bl))] sz) [(mA 0, .inr (4, [.int th, .ref (mA 1), .ref (mA 2), .ref (mA 3), .int (nI (mx_n T)), .int (nI (mx_m F)), .ref (mA 4), .ref (mA 5), .ref (mA 6), .ref (mA 7), .ref (mA 8), .ref (mA 9), .int jo, .ref (mA 10), .ref (mA 11)])), (mA 1, .inl (cZ, 16, .inl isb)), (mA 3, .inl (cI, 16, .inl pls)), (mA 4, .inl (cI, 60, .inl msg)), (mA 5, .inl (cI, 180, .inl at_)), (mA 9, .inl (cI, 60, .inl le)), (mA 10, .inl (cZ, 3600, .inl bl2))]) (va_A [(mA 0, .inr (4, [.int th, .ref (mA 1), .ref (mA 2), .ref (mA 3), .int (nI (mx_n T)), .int (nI (mx_m F)), .ref (mA 4), .ref (mA 5), .ref (mA 6), .ref (mA 7), .ref (mA 8), .ref (mA 9), .int jo, .ref (mA 10), .ref (mA 11)])), (mA 1, .inl (cZ, 16, .inl isb)), (mA 3, .inl (cI, 16, .inl pls)), (mA 4, .inl (cI, 60, .inl msg)), (mA 5, .inl (cI, 180, .inl at_)), (mA 9, .inl (cI, 60, .inl le)), (mA 10, .inl (cZ, 3600, .inl bl))] sz)) 0 0 (va_A [(mA 0, .inr (4, [.int th, .ref (mA 1), .ref (mA 2), .ref (mA 3), .int (nI (mx_n T)), .int (nI (mx_m F)), .ref (mA 4), .ref (mA 5), .ref (mA 6), .ref (mA 7), .ref (mA 8), .ref (mA 9), .int jo, .ref (mA 10), .ref (mA 11)])), (mA 1, .inl (cZ, 16, .inl isb)), (mA 3, .inl (cI, 16, .inl pls)), (mA 4, .inl (cI, 60, .inl msg)), (mA 5, .inl (cI, 180, .inl at_)), (mA 9, .inl (cI, 60, .inl le)), (mA 10, .inl (cZ, 3600, .inl bl))] sz) := by
  refine Met.ofW (cc := cX4_turns) (maxL := 4) (ret := (some .boolean)) (by decide) rfl ?_
  intro p e s m args below meth c s₁ B hml hv
  obtain ⟨rfl, hsz, hP, hK, hD0⟩ := hv
  have hx := B.exec
  have hb := B.bytes
  have hr := B.returns
  have hts := atoms_spec (ws := wsX4_turns) B.pre
  have hown : s.vm.findClass RX4 = some m.cls := findClass_of_methodNamed B.named
  have hlocks := B.notSynchronized
  subst hsz
  have hD := hD0.self (sz := s.heap.size)
  generalize hAe : va_A [(mA 0, .inr (4, [.int th, .ref (mA 1), .ref (mA 2), .ref (mA 3), .int (nI (mx_n T)), .int (nI (mx_m F)), .ref (mA 4), .ref (mA 5), .ref (mA 6), .ref (mA 7), .ref (mA 8), .ref (mA 9), .int jo, .ref (mA 10), .ref (mA 11)])), (mA 1, .inl (cZ, 16, .inl isb)), (mA 3, .inl (cI, 16, .inl pls)), (mA 4, .inl (cI, 60, .inl msg)), (mA 5, .inl (cI, 180, .inl at_)), (mA 9, .inl (cI, 60, .inl le)), (mA 10, .inl (cZ, 3600, .inl bl))] s.heap.size = A at hD ⊢
  have hA : ∀ q : Nat, s.heap.size ≤ q → A q := fun q h => by rw [← hAe]; exact Or.inr h
  have hS : va_S A s.heap s.heap [] := va_S.rf
  have hP : va_P (dC, dI) vwCl [(mA 0, .inr (4, [.int th, .ref (mA 1), .ref (mA 2), .ref (mA 3), .int (nI (mx_n T)), .int (nI (mx_m F)), .ref (mA 4), .ref (mA 5), .ref (mA 6), .ref (mA 7), .ref (mA 8), .ref (mA 9), .int jo, .ref (mA 10), .ref (mA 11)])), (mA 1, .inl (cZ, 16, .inl isb)), (mA 3, .inl (cI, 16, .inl pls)), (mA 4, .inl (cI, 60, .inl msg)), (mA 5, .inl (cI, 180, .inl at_)), (mA 9, .inl (cI, 60, .inl le)), (mA 10, .inl (cZ, 3600, .inl bl))] s.heap := hP
  have hl := lv_entry ([.ref (mA 0)]) (n := 4) (Nat.le_of_ble_eq_true rfl)
  rw [lg_entry_eq]
  generalize (lg_sl ([.ref (mA 0)]) ++ List.replicate (4 - (lg_sl ([.ref (mA 0)])).length) Slot.unset).toArray = ls at hl ⊢
  have hl : lv_has ls 4 [(0, .ref (mA 0))] := hl
  refine lv_iconst (v := 0) hx hb dX4_turns_0 (by decide) ?_
  refine lv_istore_n (lv' := [(1, .int 0), (0, .ref (mA 0))]) hx hb dX4_turns_1 rfl hl (by decide) rfl (fun ls hl => ?_)
  refine tu_1 hx hb hown hts hK hw hpf hn hmt h hA hml (fun bl1 H locs ls hI1 hP hD hS hl => ?_) 3600 0 bl _ _ _ (by omega) (fun i hi => absurd hi (Nat.not_lt_zero i)) hP hD hS (lv_sub hl [1, 0] rfl)
  refine lv_iconst (v := 0) hx hb dX4_turns_22 (by decide) ?_
  refine lv_istore_n (lv' := [(1, .int 0), (0, .ref (mA 0))]) hx hb dX4_turns_23 rfl hl (by decide) rfl (fun ls hl => ?_)
  refine tu_2 hx hb hown hts hK hw hpf hn hmt h hA hml (fun bl3 H locs ls hI3 hP hD hS hl => ?_) (mx_n T) 0 bl1 _ _ _ (by omega) (tu_A0 hI1) hP hD hS (lv_sub hl [1, 0] rfl)
  refine lv_iconst (v := 0) hx hb dX4_turns_106 (by decide) ?_
  refine lv_istore_n (lv' := [(1, .int 0), (0, .ref (mA 0))]) hx hb dX4_turns_107 rfl hl (by decide) rfl (fun ls hl => ?_)
  refine tu_4 hx hb hown hts hK hw hpf hn hmt h hA hml (fun bl4 H locs ls hI4 hP hD hS hl => ?_) (mx_n T) 0 bl3 _ _ _ (by omega) (tu_B0 hw hn h.2 hI3) hP hD hS (lv_sub hl [1, 0] rfl)
  refine lv_iconst (v := 0) hx hb dX4_turns_194 (by decide) ?_
  refine lv_istore_n (lv' := [(1, .int 0), (0, .ref (mA 0))]) hx hb dX4_turns_195 rfl hl (by decide) rfl (fun ls hl => ?_)
  refine lv_iconst (v := 0) hx hb dX4_turns_196 (by decide) ?_
  refine lv_istore_n (lv' := [(2, .int 0), (1, .int 0), (0, .ref (mA 0))]) hx hb dX4_turns_197 rfl hl (by decide) rfl (fun ls hl => ?_)
  refine tu_7 hx hb hown hts hK hw hpf hn hmt h hI4.1 hA hml (fun tr H locs ls hI7 hP hD hS hl => ?_) (mx_n T) 0 0 _ _ _ (by omega) (Or.inr ⟨rfl, fun ⟨u, hu, _⟩ => absurd hu (Nat.not_lt_zero u)⟩) hP hD hS (lv_sub hl [2, 1, 0] rfl)
  have hfin := zb_iff hI7 (tu_end hw h.2 hI4)
  refine lv_iload_n hx hb dX4_turns_236 rfl (lv_at hl 0 rfl) ?_
  rcases hfin with ⟨rfl, q⟩ | ⟨rfl, q⟩
  · have hP9 := hP.sub (ws' := [(mA 0, .inr (4, [.int th, .ref (mA 1), .ref (mA 2), .ref (mA 3), .int (nI (mx_n T)), .int (nI (mx_m F)), .ref (mA 4), .ref (mA 5), .ref (mA 6), .ref (mA 7), .ref (mA 8), .ref (mA 9), .int jo, .ref (mA 10), .ref (mA 11)])), (mA 1, .inl (cZ, 16, .inl isb)), (mA 3, .inl (cI, 16, .inl pls)), (mA 4, .inl (cI, 60, .inl msg)), (mA 5, .inl (cI, 180, .inl at_)), (mA 9, .inl (cI, 60, .inl le)), (mA 10, .inl (cZ, 3600, .inl bl4))]) [0, 1, 2, 3, 4, 5, 6] rfl
    have hD9 := hD.sub (ws' := [(mA 0, .inr (4, [.int th, .ref (mA 1), .ref (mA 2), .ref (mA 3), .int (nI (mx_n T)), .int (nI (mx_m F)), .ref (mA 4), .ref (mA 5), .ref (mA 6), .ref (mA 7), .ref (mA 8), .ref (mA 9), .int jo, .ref (mA 10), .ref (mA 11)])), (mA 1, .inl (cZ, 16, .inl isb)), (mA 3, .inl (cI, 16, .inl pls)), (mA 4, .inl (cI, 60, .inl msg)), (mA 5, .inl (cI, 180, .inl at_)), (mA 9, .inl (cI, 60, .inl le)), (mA 10, .inl (cZ, 3600, .inl bl4))]) [0, 1, 2, 3, 4, 5, 6] (by decide) rfl
    exact W.zret (v := 1) hx hb hr rfl (fun t9 ht9 hW9 => ⟨⟨1, bl4, rfl, Or.inl ⟨rfl, q⟩, by rw [ht9]; exact hP9, va_K.moved hW9.alike hK, hD9⟩, hS.F ht9⟩) hS.2.2 dX4_turns_237
  · have hP9 := hP.sub (ws' := [(mA 0, .inr (4, [.int th, .ref (mA 1), .ref (mA 2), .ref (mA 3), .int (nI (mx_n T)), .int (nI (mx_m F)), .ref (mA 4), .ref (mA 5), .ref (mA 6), .ref (mA 7), .ref (mA 8), .ref (mA 9), .int jo, .ref (mA 10), .ref (mA 11)])), (mA 1, .inl (cZ, 16, .inl isb)), (mA 3, .inl (cI, 16, .inl pls)), (mA 4, .inl (cI, 60, .inl msg)), (mA 5, .inl (cI, 180, .inl at_)), (mA 9, .inl (cI, 60, .inl le)), (mA 10, .inl (cZ, 3600, .inl bl4))]) [0, 1, 2, 3, 4, 5, 6] rfl
    have hD9 := hD.sub (ws' := [(mA 0, .inr (4, [.int th, .ref (mA 1), .ref (mA 2), .ref (mA 3), .int (nI (mx_n T)), .int (nI (mx_m F)), .ref (mA 4), .ref (mA 5), .ref (mA 6), .ref (mA 7), .ref (mA 8), .ref (mA 9), .int jo, .ref (mA 10), .ref (mA 11)])), (mA 1, .inl (cZ, 16, .inl isb)), (mA 3, .inl (cI, 16, .inl pls)), (mA 4, .inl (cI, 60, .inl msg)), (mA 5, .inl (cI, 180, .inl at_)), (mA 9, .inl (cI, 60, .inl le)), (mA 10, .inl (cZ, 3600, .inl bl4))]) [0, 1, 2, 3, 4, 5, 6] (by decide) rfl
    exact W.zret (v := 0) hx hb hr rfl (fun t9 ht9 hW9 => ⟨⟨0, bl4, rfl, Or.inr ⟨rfl, q⟩, by rw [ht9]; exact hP9, va_K.moved hW9.alike hK, hD9⟩, hS.F ht9⟩) hS.2.2 dX4_turns_237
