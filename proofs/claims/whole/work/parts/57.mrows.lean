/-! THE REFERENCE: rows, reasons, idle facts -/
theorem pm1 (x : Int32) : x + (-1) = x - 1 := (Int32.sub_eq_add_neg x 1).symm
theorem cf_s {p : Nat → Bool} {n j : Nat} (hj : j < n) : mx_cnt (fun i => decide (j ≤ i) && p i) n = mx_cnt (fun i => decide (j + 1 ≤ i) && p i) n + (if p j = true then 1 else 0) := by
  by_cases q : p j = true
  · rw [if_pos q]
    refine (mx_cnt_drop (g := j) (fun i hi => ?_) hj (by simp [q])).symm
    by_cases z : i = j
    · subst z; simp [show ¬ i + 1 ≤ i by omega]
    · by_cases w : j ≤ i
      · simp [w, z, show j + 1 ≤ i by omega]
      · simp [w, show ¬ j + 1 ≤ i by omega]
  · rw [if_neg q]
    refine mx_cnt_congr (fun i hi => ?_)
    by_cases z : i = j
    · subst z
      have : p i = false := by cases h : p i with | false => rfl | true => exact absurd h q
      simp [this]
    · by_cases w : j ≤ i
      · simp [w, show j + 1 ≤ i by omega]
      · simp [w, show ¬ j + 1 ≤ i by omega]
theorem cf_n {p : Nat → Bool} {n : Nat} : mx_cnt (fun i => decide (n ≤ i) && p i) n = 0 := mx_cnt_0 (fun i hi => by simp [show ¬ n ≤ i by omega])
theorem cf_0 {p : Nat → Bool} {n : Nat} : mx_cnt (fun i => decide (0 ≤ i) && p i) n = mx_cnt p n := mx_cnt_congr (fun i _ => by simp)
/-- how many rows: terms with none of their row ahead -/
def ro_n (T : mx_T) (nn : Nat → Nat) : Nat := mx_cnt (fun k => decide (∀ z, z < k → nn z ≠ nn k)) (mx_n T)
/-- what row answers -/
def ro_P (T : mx_T) (nn : Nat → Nat) (t : Nat) (w r : Int32) : Prop :=
  (w = 0 → ∃ x, mx_least (fun y => y < mx_n T ∧ nn y = nn t) x ∧ r = nI x) ∧ (w = 1 → r = nI (mx_cnt (fun y => decide (nn y = nn t)) (mx_n T))) ∧
  (w = 2 → (r = -1 ∧ ∀ y, y < mx_n T → nn y = nn t → mx_bu T y = false) ∨ ∃ x, mx_least (fun y => y < mx_n T ∧ nn y = nn t ∧ mx_bu T y = true) x ∧ r = nI x) ∧
  (w = 3 → r = nI (ro_n T nn)) ∧ (¬ w = 0 → ¬ w = 1 → ¬ w = 2 → ¬ w = 3 → r = -1)
theorem mx_least_un {P : Nat → Prop} {x y : Nat} (hx : mx_least P x) (hy : mx_least P y) : x = y := mx_least_eq hx hy (fun _ => Iff.rfl)
theorem ro_det {T : mx_T} {nn nn' : Nat → Nat} (hs : mx_sim (mx_n T) nn nn') {t : Nat} (ht : t < mx_n T) {w r r' : Int32} (h : ro_P T nn t w r) (h' : ro_P T nn' t w r') : r = r' := by
  by_cases c0 : w = 0
  · obtain ⟨x, a, rfl⟩ := h.1 c0
    obtain ⟨y, b, rfl⟩ := h'.1 c0
    rw [mx_least_un a (mx_least_to b (fun i => and_congr_right fun hi => (hs i t hi ht).symm))]
  by_cases c1 : w = 1
  · rw [h.2.1 c1, h'.2.1 c1]
    congr 1
    exact mx_cnt_congr (fun i hi => by simp only [hs i t hi ht])
  by_cases c2 : w = 2
  · rcases h.2.2.1 c2 with ⟨a, b⟩ | ⟨x, a, rfl⟩ <;> rcases h'.2.2.1 c2 with ⟨a', b'⟩ | ⟨y, a', rfl⟩
    · rw [a, a']
    · have := b y a'.1.1 ((hs y t a'.1.1 ht).mpr a'.1.2.1)
      rw [a'.1.2.2] at this; cases this
    · have := b' x a.1.1 ((hs x t a.1.1 ht).mp a.1.2.1)
      rw [a.1.2.2] at this; cases this
    · rw [mx_least_un a (mx_least_to a' (fun i => and_congr_right fun hi => and_congr_left fun _ => (hs i t hi ht).symm))]
  by_cases c3 : w = 3
  · rw [h.2.2.2.1 c3, h'.2.2.2.1 c3]
    congr 1
    refine mx_cnt_congr (fun i hi => ?_)
    have : (∀ z, z < i → nn z ≠ nn i) ↔ (∀ z, z < i → nn' z ≠ nn' i) := ⟨fun q z hz e => q z hz ((hs z i (by omega) hi).mpr e), fun q z hz e => q z hz ((hs z i (by omega) hi).mp e)⟩
    simp only [this]
  rw [h.2.2.2.2 c0 c1 c2 c3, h'.2.2.2.2 c0 c1 c2 c3]
theorem ro_root {n : Nat} {nn : Nat → Nat} (h : lq_ok n nn) {k : Nat} (hk : k < n) : nn k = k ↔ ∀ z, z < k → nn z ≠ nn k := by
  have hk2 := h k hk
  constructor
  · intro e z hz q
    have := h z (by omega)
    omega
  · intro q
    rcases Nat.lt_or_ge (nn k) k with z | z
    · exact absurd hk2.2 (q _ z)
    · omega
def ro_I (T : mx_T) (nn : Nat → Nat) (t j : Nat) (many built rows : Int32) : Prop :=
  rows = nI (mx_cnt (fun i => decide (j ≤ i) && decide (nn i = i)) (mx_n T)) ∧ many = nI (mx_cnt (fun i => decide (j ≤ i) && decide (nn i = nn t)) (mx_n T)) ∧
  ((built = -1 ∧ ∀ y, j ≤ y → y < mx_n T → nn y = nn t → mx_bu T y = false) ∨ ∃ x, j ≤ x ∧ x < mx_n T ∧ nn x = nn t ∧ mx_bu T x = true ∧ built = nI x ∧ ∀ y, j ≤ y → y < x → nn y = nn t → mx_bu T y = false)
theorem ro_I0 {T : mx_T} {nn : Nat → Nat} {t : Nat} : ro_I T nn t (mx_n T) 0 (-1) 0 := ⟨by rw [cf_n]; rfl, by rw [cf_n]; rfl, Or.inl ⟨rfl, fun y h1 h2 => by omega⟩⟩
theorem ro_rows {T : mx_T} {nn : Nat → Nat} {j : Nat} (hj : j < mx_n T) {rows : Int32} (h : rows = nI (mx_cnt (fun i => decide (j + 1 ≤ i) && decide (nn i = i)) (mx_n T))) {v : Nat} (hv : v = if nn j = j then 1 else 0) : rows + nI v = nI (mx_cnt (fun i => decide (j ≤ i) && decide (nn i = i)) (mx_n T)) := by
  rw [cf_s (p := fun i => decide (nn i = i)) hj, h, nI_add, hv]
  simp
theorem ro_skip {T : mx_T} {nn : Nat → Nat} {t j : Nat} (hj : j < mx_n T) {many built rows rows' : Int32} (h : ro_I T nn t (j + 1) many built rows) (h1 : rows' = nI (mx_cnt (fun i => decide (j ≤ i) && decide (nn i = i)) (mx_n T))) (q : ¬ nn j = nn t) : ro_I T nn t j many built rows' := by
  refine ⟨h1, ?_, ?_⟩
  · rw [cf_s (p := fun i => decide (nn i = nn t)) hj, h.2.1]
    simp [q]
  · rcases h.2.2 with ⟨a, b⟩ | ⟨x, a, b, c, d, e, f⟩
    · refine Or.inl ⟨a, fun y h2 h3 h4 => ?_⟩
      by_cases z : y = j
      · subst z; exact absurd h4 q
      · exact b y (by omega) h3 h4
    · refine Or.inr ⟨x, by omega, b, c, d, e, fun y h2 h3 h4 => ?_⟩
      by_cases z : y = j
      · subst z; exact absurd h4 q
      · exact f y (by omega) h3 h4
theorem ro_many {T : mx_T} {nn : Nat → Nat} {t j : Nat} (hj : j < mx_n T) {many : Int32} (h : many = nI (mx_cnt (fun i => decide (j + 1 ≤ i) && decide (nn i = nn t)) (mx_n T))) (q : nn j = nn t) : many + 1 = nI (mx_cnt (fun i => decide (j ≤ i) && decide (nn i = nn t)) (mx_n T)) := by
  rw [cf_s (p := fun i => decide (nn i = nn t)) hj, h, nI_1]
  simp [q]
theorem ro_in {T : mx_T} {nn : Nat → Nat} {t j : Nat} (hj : j < mx_n T) {many many' built rows rows' : Int32} (h : ro_I T nn t (j + 1) many built rows) (h1 : rows' = nI (mx_cnt (fun i => decide (j ≤ i) && decide (nn i = i)) (mx_n T))) (q : nn j = nn t) (hm : many' = many + 1) (hb : mx_bu T j = false) : ro_I T nn t j many' built rows' := by
  refine ⟨h1, by rw [hm]; exact ro_many hj h.2.1 q, ?_⟩
  rcases h.2.2 with ⟨a, b⟩ | ⟨x, a, b, c, d, e, f⟩
  · refine Or.inl ⟨a, fun y h2 h3 h4 => ?_⟩
    by_cases z : y = j
    · subst z; exact hb
    · exact b y (by omega) h3 h4
  · refine Or.inr ⟨x, by omega, b, c, d, e, fun y h2 h3 h4 => ?_⟩
    by_cases z : y = j
    · subst z; exact hb
    · exact f y (by omega) h3 h4
theorem ro_built {T : mx_T} {nn : Nat → Nat} {t j : Nat} (hj : j < mx_n T) {many many' built rows rows' : Int32} (h : ro_I T nn t (j + 1) many built rows) (h1 : rows' = nI (mx_cnt (fun i => decide (j ≤ i) && decide (nn i = i)) (mx_n T))) (q : nn j = nn t) (hm : many' = many + 1) (hb : mx_bu T j = true) : ro_I T nn t j many' (nI j) rows' :=
  ⟨h1, by rw [hm]; exact ro_many hj h.2.1 q, Or.inr ⟨j, by omega, hj, q, hb, rfl, fun y h2 h3 => by omega⟩⟩
theorem ro_end {T : mx_T} {nn : Nat → Nat} (hq : lq_ok (mx_n T) nn) {t : Nat} (ht : t < mx_n T) {many built rows : Int32} (h : ro_I T nn t 0 many built rows) {w r : Int32}
    (e : r = if w = 0 then nI (nn t) else if w = 1 then many else if w = 2 then built else if w = 3 then rows else -1) : ro_P T nn t w r := by
  refine ⟨fun q => ?_, fun q => ?_, fun q => ?_, fun q => ?_, fun q0 q1 q2 q3 => ?_⟩
  · refine ⟨nn t, ⟨⟨by have := hq t ht; omega, (hq t ht).2⟩, fun z hz c => ?_⟩, by rw [e, if_pos q]⟩
    have := hq z c.1
    rw [c.2] at this
    omega
  · subst q; rw [e, if_neg (by decide), if_pos rfl, h.2.1, cf_0 (p := fun i => decide (nn i = nn t))]
  · subst q; rw [e, if_neg (by decide), if_neg (by decide), if_pos rfl]
    rcases h.2.2 with ⟨a, b⟩ | ⟨x, -, b, c, d, e, f⟩
    · exact Or.inl ⟨a, fun y => b y (Nat.zero_le y)⟩
    · refine Or.inr ⟨x, ⟨⟨b, c, d⟩, fun y hy g => ?_⟩, e⟩
      have := f y (Nat.zero_le y) hy g.2.1
      rw [g.2.2] at this; cases this
  · subst q; rw [e, if_neg (by decide), if_neg (by decide), if_neg (by decide), if_pos rfl, h.1, cf_0 (p := fun i => decide (nn i = i))]
    congr 1
    exact mx_cnt_congr (fun i hi => by simp only [ro_root hq hi])
  · rw [e, if_neg q0, if_neg q1, if_neg q2, if_neg q3]
/-- what is kept lies behind -/
theorem mx_kp_ge {P : (Nat → Bool) → Prop} {c : Nat} : ∀ i, i ≤ c → ∀ g, mx_kp P c i g = true → c - i ≤ g ∧ g < c
  | 0, _, g, h => by cases h
  | i + 1, hi, g, h => by
    have ih := mx_kp_ge (P := P) (c := c) i (by omega) g
    by_cases q : P (fun g => mx_kp P c i g || decide (g < c - 1 - i))
    · have : mx_kp P c (i + 1) g = mx_kp P c i g := by
        show (@ite _ (P (fun g => mx_kp P c i g || decide (g < c - 1 - i))) (Classical.propDecidable _) (mx_kp P c i) _) g = _
        rw [if_pos q]
      rw [this] at h
      have := ih h
      omega
    · have : mx_kp P c (i + 1) g = (mx_kp P c i g || decide (g = c - 1 - i)) := by
        show (@ite _ (P (fun g => mx_kp P c i g || decide (g < c - 1 - i))) (Classical.propDecidable _) (mx_kp P c i) (fun g => mx_kp P c i g || decide (g = c - 1 - i))) g = _
        rw [if_neg q]
      rw [this, Bool.or_eq_true] at h
      rcases h with h | h
      · have := ih h; omega
      · have : g = c - 1 - i := of_decide_eq_true h
        omega
/-- the reference's kept: what is kept behind j, and all ahead -/
noncomputable def rk_K (P : (Nat → Bool) → Prop) (c j : Nat) : Nat → Bool := fun g => mx_kp P c (c - j) g || decide (g < j)
theorem rk_K0 (P : (Nat → Bool) → Prop) (c : Nat) : rk_K P c c = fun g => decide (g < c) := by
  funext g
  unfold rk_K
  rw [Nat.sub_self]
  rfl
theorem rk_Ke (P : (Nat → Bool) → Prop) (c : Nat) : rk_K P c 0 = mx_kp P c c := by
  funext g
  unfold rk_K
  simp
theorem rk_minus {P : (Nat → Bool) → Prop} {c f : Nat} (hf : f < c) (hc : c ≤ 40) {kept : Int64} (h : jb kept = rk_K P c (f + 1)) : jb (kept &&& (((1 : Int64) <<< ((nI f).toInt64 &&& 63)) ^^^ (-1))) = fun g => mx_kp P c (c - (f + 1)) g || decide (g < f) := by
  funext g
  rw [jb_and, h]
  by_cases hg : g < 64
  · rw [jb_not _ hg, jb_one (by omega)]
    show ((mx_kp P c (c - (f + 1)) g || decide (g < f + 1)) && !decide (g = f)) = (mx_kp P c (c - (f + 1)) g || decide (g < f))
    by_cases z : g = f
    · subst z
      have : mx_kp P c (c - (g + 1)) g = false := ts_nt (fun q => by have := mx_kp_ge _ (by omega) g q; omega)
      simp [this]
    · by_cases w : g < f
      · simp [w, z, show g < f + 1 by omega]
      · simp [w, z, show ¬ g < f + 1 by omega]
  · rw [jb_big (by omega)]
    have : mx_kp P c (c - (f + 1)) g = false := ts_nt (fun q => by have := mx_kp_ge _ (by omega) g q; omega)
    simp [this, show ¬ g < f by omega]
theorem rk_out {P : (Nat → Bool) → Prop} {c f : Nat} (hf : f < c) (q : P (fun g => mx_kp P c (c - (f + 1)) g || decide (g < f))) : (fun g => mx_kp P c (c - (f + 1)) g || decide (g < f)) = rk_K P c f := by
  unfold rk_K
  rw [mx_kp_out hf q]
theorem rk_in {P : (Nat → Bool) → Prop} {c f : Nat} (hf : f < c) (q : ¬ P (fun g => mx_kp P c (c - (f + 1)) g || decide (g < f))) : rk_K P c (f + 1) = rk_K P c f := by
  unfold rk_K
  rw [mx_kp_in hf q]
  funext g
  by_cases z : g = f
  · subst z; simp
  · by_cases w : g < f
    · simp [w, z, show g < f + 1 by omega]
    · simp [w, z, show ¬ g < f + 1 by omega]
/-- what idle answers -/
def id_P (T : mx_T) (F : mx_F) (r : Int64) : Prop := ∀ f, jb r f = true ↔ f < mx_m F ∧ mx_sm F f = true ∧ mx_one T (mx_E F (fun _ => true) f) (mx_lf F f) (mx_rt F f)
theorem id_det {T : mx_T} {F : mx_F} {r r' : Int64} (h : id_P T F r) (h' : id_P T F r') : r = r' := jb_ext fun i _ => by
  cases a : jb r i with
  | true => exact ((h' i).mpr ((h i).mp a)).symm
  | false => exact (ts_nt fun q => by rw [(h i).mpr ((h' i).mp q)] at a; cases a).symm
theorem id_E {F : mx_F} {f : Nat} (hf : f ≤ mx_m F) (x y : Nat) : mx_E F (fun i => decide (i < f)) (mx_m F) x y ↔ mx_E F (fun _ => true) f x y := by
  constructor
  · rintro ⟨g, a, b, c, d⟩; exact ⟨g, of_decide_eq_true c, b, rfl, d⟩
  · rintro ⟨g, a, b, c, d⟩; exact ⟨g, by omega, b, decide_eq_true a, d⟩
def id_I (T : mx_T) (F : mx_F) (k : Nat) (r : Int64) : Prop := ∀ f, jb r f = true ↔ f < k ∧ mx_sm F f = true ∧ mx_one T (mx_E F (fun _ => true) f) (mx_lf F f) (mx_rt F f)
theorem id_no {T : mx_T} {F : mx_F} {k : Nat} {r : Int64} (h : id_I T F k r) (q : ¬ (mx_sm F k = true ∧ mx_one T (mx_E F (fun _ => true) k) (mx_lf F k) (mx_rt F k))) : id_I T F (k + 1) r := fun f => (h f).trans
  ⟨fun z => ⟨by omega, z.2⟩, fun z => ⟨by
    by_cases w : f = k
    · subst w; exact absurd z.2 q
    · omega, z.2⟩⟩
theorem id_yes {T : mx_T} {F : mx_F} {k : Nat} (hk : k < 64) {r : Int64} (h : id_I T F k r) (q : mx_sm F k = true ∧ mx_one T (mx_E F (fun _ => true) k) (mx_lf F k) (mx_rt F k)) : id_I T F (k + 1) (r ||| ((1 : Int64) <<< ((nI k).toInt64 &&& 63))) := fun f => by
  rw [jb_or, Bool.or_eq_true, h f, jb_one hk, decide_eq_true_iff]
  constructor
  · rintro (z | rfl)
    · exact ⟨by omega, z.2⟩
    · exact ⟨by omega, q⟩
  · intro z
    by_cases w : f = k
    · exact Or.inr w
    · exact Or.inl ⟨by omega, z.2⟩
theorem an_i {T : mx_T} {F : mx_F} {a b r th : Int32} (h : io_Q T F a b r th) (q : ¬ r = 0) : ∃ x y, x < mx_n T ∧ y < mx_n T ∧ a = nI x ∧ b = nI y ∧ th = 0 ∧ rq_R T F (some (x, y)) (al_S F) := by
  rcases h.1 with ⟨x, y, h1, h2, h3, h4, h5, h6⟩ | ⟨h1, h2⟩
  · exact ⟨x, y, h1, h2, h3, h4, h5, zb_t h6 q⟩
  · exact absurd (h.2 h2) q

set_option maxHeartbeats 4000000 in
set_option maxRecDepth 100000 in
theorem ro_l {p : Program} {l : Launch} {e : Env} {s : State} {m : MethodId} {args : Array Value} {below : List Frame} {meth : Method} {c : Code} {Q : State → Prop} (hx : p.tables.exec = Jvm.exec) (hb : c.code = cX4_row) (hown : s.vm.findClass RX4 = some m.cls) (hts : ∀ w ∈ wsX4_row, w.before args s = true) {dC : Nat → ClassId} {dI : Nat → Nat → Nat} {cI cJ cZ : ClassId} (hK : va_K (dC, dI) vwCl [(cI, .int), (cJ, .long), (cZ, .boolean)] s) {T : mx_T} {F : mx_F} {mA : Nat → Nat} {th : Int32} {jo : Int32} {isb : Nat → Int32} {pls : Nat → Int32} {msg : Nat → Int32} {at_ : Nat → Int32} {on : Nat → Int32} {tw : Nat → Int32} {sa : Nat → Int32} {le : Nat → Int32} {nn : Nat → Nat} {t : Nat} {w : Int32} (hw : mx_wf T) (hpf : mx_pf T) (hn : mx_n T ≤ 60) (hmt : md_T T isb pls msg at_) (hmf : mx_m F ≤ 40 ∧ ∀ f, f < mx_m F → on f = nI (mx_lf F f) ∧ tw f = nI (mx_rt F f) ∧ mx_lf F f < mx_n T ∧ mx_rt F f < mx_n T ∧ sa f = (if mx_sm F f = true then 1 else 0)) (h : md_L T nn le) (ht : t < mx_n T) {H : Heap} {locs : List Loc} (hP : va_P (dC, dI) vwCl [(mA 0, .inr (4, [.int th, .ref (mA 1), .ref (mA 2), .ref (mA 3), .int (nI (mx_n T)), .int (nI (mx_m F)), .ref (mA 4), .ref (mA 5), .ref (mA 6), .ref (mA 7), .ref (mA 8), .ref (mA 9), .int jo, .ref (mA 10), .ref (mA 11)])), (mA 1, .inl (cZ, 16, .inl isb)), (mA 3, .inl (cI, 16, .inl pls)), (mA 4, .inl (cI, 60, .inl msg)), (mA 5, .inl (cI, 180, .inl at_)), (mA 6, .inl (cI, 40, .inl on)), (mA 7, .inl (cI, 40, .inl tw)), (mA 8, .inl (cZ, 40, .inl sa)), (mA 9, .inl (cI, 60, .inl le))] H) (hml : c.maxLocals = 7) (kk : ∀ (many : Int32) (built : Int32) (rows : Int32) (ls : Array Slot), (ro_I T nn t 0 many built rows) → lv_has ls 7 [(0, .ref (mA 0)), (1, .int (nI t)), (2, .int w), (3, .int many), (4, .int built), (5, .int rows)] → W p l e ({ frames := 2, cells := 0, slots := 0, locals := 53 }) s m args below meth c H locs 0 0 Q (F0 m 126 ls [])) : ∀ (d : Nat) (j : Nat) (kv : Int32) (many : Int32) (built : Int32) (rows : Int32) (ls : Array Slot), (j = d) → (j ≤ mx_n T) → (kv = nI j - 1) → (ro_I T nn t j many built rows) → lv_has ls 7 [(0, .ref (mA 0)), (1, .int (nI t)), (2, .int w), (3, .int many), (4, .int built), (5, .int rows), (6, .int kv)] → W p l e ({ frames := 2, cells := 0, slots := 0, locals := 53 }) s m args below meth c H locs 0 0 Q (F0 m 52 ls []) := by
  intro d
  induction d with
  | zero =>
    intro j kv many built rows ls hd hj hk hI hl
    subst hd
    subst hk
    refine lv_iload hx hb dX4_row_52 (lv_at hl 6 rfl) ?_
    refine lv_if_lt (tgt := 126) hx hb dX4_row_54 (by decide) (fun c1 => ?_) (fun c1 => ?_)
    · refine kk many built rows _ hI (lv_sub hl [0, 1, 2, 3, 4, 5] rfl)
    · exact absurd (by decide) c1
  | succ d ih =>
    intro j kv many built rows ls hd hj hk hI hl
    subst hd
    have hj0 : d < mx_n T := by omega
    have hk : kv = nI d := by rw [hk]; exact nI_pred d
    subst hk
    obtain ⟨e1, e2, e3, e4⟩ := hmt.1 d hj0
    have n1 := h.2 d hj0
    have n2 := h.2 t ht
    refine lv_iload hx hb dX4_row_52 (lv_at hl 6 rfl) ?_
    refine lv_if_lt (tgt := 126) hx hb dX4_row_54 (by decide) (fun c1 => ?_) (fun c1 => ?_)
    · exact absurd c1 (nI_pos (by omega))
    · refine lv_iload hx hb dX4_row_57 (lv_at hl 5 rfl) ?_
      refine lv_aload_n hx hb dX4_row_59 rfl (lv_at hl 0 rfl) ?_
      refine va_get (D := (dC, dI)) (ci := 4) (v := .ref (mA 9)) (C := RX4) (T := TX4) (N := 15) hx hb hts (fun w h => woX4_row w (inX4 w h)) hown hK hP 0 rfl rfl 11 (by decide) (hts _ (woX4_row _ wd_504)) (fun _ h9 => h9) rfl dX4_row_60 ?_
      refine lv_iload hx hb dX4_row_63 (lv_at hl 6 rfl) ?_
      refine va_iald hx hb hK hP 8 0 rfl rfl (vp_in_nI (by omega) (by omega)) dX4_row_65 ?_
      rw [show (nI d).toNatClampNeg = d from nI_clamp (by omega)]
      rw [h.1 d hj0]
      refine lv_iload hx hb dX4_row_66 (lv_at hl 6 rfl) ?_
      refine lv_icmp_ne (tgt := 75) hx hb dX4_row_68 (by decide) (fun c2 => ?_) (fun c2 => ?_)
      · have hrr := ro_rows hj0 hI.1 (v := 0) (by rw [if_neg (fun z => c2 (by rw [z]))])
        refine lv_iconst (v := 0) hx hb dX4_row_75 (by decide) ?_
        refine lv_iadd hx hb dX4_row_76 ?_
        refine lv_topi (fun rw_1 erw_1 => ?_)
        have hrw : rw_1 = nI (mx_cnt (fun i => decide (d ≤ i) && decide (nn i = i)) (mx_n T)) := by rw [erw_1]; exact hrr
        refine lv_istore (lv' := [(5, .int rw_1), (0, .ref (mA 0)), (1, .int (nI t)), (2, .int w), (3, .int many), (4, .int built), (6, .int (nI d))]) hx hb dX4_row_77 hl (by decide) rfl (fun ls hl => ?_)
        refine lv_aload_n hx hb dX4_row_79 rfl (lv_at hl 1 rfl) ?_
        refine va_get (D := (dC, dI)) (ci := 4) (v := .ref (mA 9)) (C := RX4) (T := TX4) (N := 15) hx hb hts (fun w h => woX4_row w (inX4 w h)) hown hK hP 0 rfl rfl 11 (by decide) (hts _ (woX4_row _ wd_504)) (fun _ h9 => h9) rfl dX4_row_80 ?_
        refine lv_iload hx hb dX4_row_83 (lv_at hl 6 rfl) ?_
        refine va_iald hx hb hK hP 8 0 rfl rfl (vp_in_nI (by omega) (by omega)) dX4_row_85 ?_
        rw [show (nI d).toNatClampNeg = d from nI_clamp (by omega)]
        rw [h.1 d hj0]
        refine lv_aload_n hx hb dX4_row_86 rfl (lv_at hl 1 rfl) ?_
        refine va_get (D := (dC, dI)) (ci := 4) (v := .ref (mA 9)) (C := RX4) (T := TX4) (N := 15) hx hb hts (fun w h => woX4_row w (inX4 w h)) hown hK hP 0 rfl rfl 11 (by decide) (hts _ (woX4_row _ wd_504)) (fun _ h9 => h9) rfl dX4_row_87 ?_
        refine lv_iload_n hx hb dX4_row_90 rfl (lv_at hl 2 rfl) ?_
        refine va_iald hx hb hK hP 8 0 rfl rfl (vp_in_nI (by omega) (by omega)) dX4_row_91 ?_
        rw [show (nI t).toNatClampNeg = t from nI_clamp (by omega)]
        rw [h.1 t ht]
        refine lv_icmp_eq (tgt := 98) hx hb dX4_row_92 (by decide) (fun c3 => ?_) (fun c3 => ?_)
        · have heq : nn d = nn t := (nI_eq (by omega) (by omega)).mp c3
          obtain ⟨y_2, ey_2⟩ : ∃ y9 : Int32, y9 = many + 1 := ⟨_, rfl⟩
          refine lv_iinc (v := y_2) (lv' := [(3, .int y_2), (5, .int rw_1), (0, .ref (mA 0)), (1, .int (nI t)), (2, .int w), (4, .int built), (6, .int (nI d))]) hx hb dX4_row_98 hl (k := 4) rfl (by rw [ey_2]; rfl) (by decide) rfl (fun ls hl => ?_)
          refine lv_aload_n hx hb dX4_row_101 rfl (lv_at hl 2 rfl) ?_
          refine va_get (D := (dC, dI)) (ci := 4) (v := .ref (mA 1)) (C := RX4) (T := TX4) (N := 15) hx hb hts (fun w h => woX4_row w (inX4 w h)) hown hK hP 0 rfl rfl 1 (by decide) (hts _ (woX4_row _ wd_494)) (fun _ h9 => h9) rfl dX4_row_102 ?_
          refine lv_aload_n hx hb dX4_row_105 rfl (lv_at hl 2 rfl) ?_
          refine va_get (D := (dC, dI)) (ci := 4) (v := .ref (mA 4)) (C := RX4) (T := TX4) (N := 15) hx hb hts (fun w h => woX4_row w (inX4 w h)) hown hK hP 0 rfl rfl 6 (by decide) (hts _ (woX4_row _ wd_499)) (fun _ h9 => h9) rfl dX4_row_106 ?_
          refine lv_iload hx hb dX4_row_109 (lv_at hl 6 rfl) ?_
          refine va_iald hx hb hK hP 3 0 rfl rfl (vp_in_nI (by omega) (by omega)) dX4_row_111 ?_
          rw [show (nI d).toNatClampNeg = d from nI_clamp (by omega)]
          rw [e1]
          refine va_zald hx hb hK hP 1 2 rfl rfl (vp_in_nI (by omega) (by omega)) dX4_row_112 ?_
          rw [show (nI (mx_sg T d)).toNatClampNeg = (mx_sg T d) from nI_clamp (by omega)]
          rw [e4]
          refine lv_if_eq (tgt := 120) hx hb dX4_row_113 (by decide) (fun c4 => ?_) (fun c4 => ?_)
          · obtain ⟨y_3, ey_3⟩ : ∃ y9 : Int32, y9 = (nI d) + (-1) := ⟨_, rfl⟩
            refine lv_iinc (v := y_3) (lv' := [(6, .int y_3), (3, .int y_2), (5, .int rw_1), (0, .ref (mA 0)), (1, .int (nI t)), (2, .int w), (4, .int built)]) hx hb dX4_row_120 hl (k := 6) rfl (by rw [ey_3]; rfl) (by decide) rfl (fun ls hl => ?_)
            refine lv_goto (tgt := 52) hx hb dX4_row_123 (by decide) ?_
            rw [pm1] at ey_3
            refine ih d y_3 y_2 built rw_1 _ rfl (by omega) ey_3 (ro_in hj0 hI hrw heq ey_2 (ts_nt (fun z => by rw [if_pos z] at c4; exact absurd c4 (by decide)))) (lv_sub hl [3, 4, 5, 1, 6, 2, 0] rfl)
          · refine lv_iload hx hb dX4_row_116 (lv_at hl 6 rfl) ?_
            refine lv_istore (lv' := [(4, .int (nI d)), (3, .int y_2), (5, .int rw_1), (0, .ref (mA 0)), (1, .int (nI t)), (2, .int w), (6, .int (nI d))]) hx hb dX4_row_118 hl (by decide) rfl (fun ls hl => ?_)
            obtain ⟨y_4, ey_4⟩ : ∃ y9 : Int32, y9 = (nI d) + (-1) := ⟨_, rfl⟩
            refine lv_iinc (v := y_4) (lv' := [(6, .int y_4), (4, .int (nI d)), (3, .int y_2), (5, .int rw_1), (0, .ref (mA 0)), (1, .int (nI t)), (2, .int w)]) hx hb dX4_row_120 hl (k := 6) rfl (by rw [ey_4]; rfl) (by decide) rfl (fun ls hl => ?_)
            refine lv_goto (tgt := 52) hx hb dX4_row_123 (by decide) ?_
            rw [pm1] at ey_4
            refine ih d y_4 y_2 (nI d) rw_1 _ rfl (by omega) ey_4 (ro_built hj0 hI hrw heq ey_2 (Classical.byContradiction fun z => c4 (if_neg z))) (lv_sub hl [4, 5, 6, 2, 1, 3, 0] rfl)
        · refine lv_goto (tgt := 120) hx hb dX4_row_95 (by decide) ?_
          obtain ⟨y_5, ey_5⟩ : ∃ y9 : Int32, y9 = (nI d) + (-1) := ⟨_, rfl⟩
          refine lv_iinc (v := y_5) (lv' := [(6, .int y_5), (5, .int rw_1), (0, .ref (mA 0)), (1, .int (nI t)), (2, .int w), (3, .int many), (4, .int built)]) hx hb dX4_row_120 hl (k := 6) rfl (by rw [ey_5]; rfl) (by decide) rfl (fun ls hl => ?_)
          refine lv_goto (tgt := 52) hx hb dX4_row_123 (by decide) ?_
          rw [pm1] at ey_5
          refine ih d y_5 many built rw_1 _ rfl (by omega) ey_5 (ro_skip hj0 hI hrw (fun z => c3 (by rw [z]))) (lv_sub hl [2, 3, 4, 5, 6, 1, 0] rfl)
      · have hrr := ro_rows hj0 hI.1 (v := 1) (by rw [if_pos ((nI_eq (by omega) (by omega)).mp c2)])
        refine lv_iconst (v := 1) hx hb dX4_row_71 (by decide) ?_
        refine lv_goto (tgt := 76) hx hb dX4_row_72 (by decide) ?_
        refine lv_iadd hx hb dX4_row_76 ?_
        refine lv_topi (fun rw_6 erw_6 => ?_)
        have hrw : rw_6 = nI (mx_cnt (fun i => decide (d ≤ i) && decide (nn i = i)) (mx_n T)) := by rw [erw_6]; exact hrr
        refine lv_istore (lv' := [(5, .int rw_6), (0, .ref (mA 0)), (1, .int (nI t)), (2, .int w), (3, .int many), (4, .int built), (6, .int (nI d))]) hx hb dX4_row_77 hl (by decide) rfl (fun ls hl => ?_)
        refine lv_aload_n hx hb dX4_row_79 rfl (lv_at hl 1 rfl) ?_
        refine va_get (D := (dC, dI)) (ci := 4) (v := .ref (mA 9)) (C := RX4) (T := TX4) (N := 15) hx hb hts (fun w h => woX4_row w (inX4 w h)) hown hK hP 0 rfl rfl 11 (by decide) (hts _ (woX4_row _ wd_504)) (fun _ h9 => h9) rfl dX4_row_80 ?_
        refine lv_iload hx hb dX4_row_83 (lv_at hl 6 rfl) ?_
        refine va_iald hx hb hK hP 8 0 rfl rfl (vp_in_nI (by omega) (by omega)) dX4_row_85 ?_
        rw [show (nI d).toNatClampNeg = d from nI_clamp (by omega)]
        rw [h.1 d hj0]
        refine lv_aload_n hx hb dX4_row_86 rfl (lv_at hl 1 rfl) ?_
        refine va_get (D := (dC, dI)) (ci := 4) (v := .ref (mA 9)) (C := RX4) (T := TX4) (N := 15) hx hb hts (fun w h => woX4_row w (inX4 w h)) hown hK hP 0 rfl rfl 11 (by decide) (hts _ (woX4_row _ wd_504)) (fun _ h9 => h9) rfl dX4_row_87 ?_
        refine lv_iload_n hx hb dX4_row_90 rfl (lv_at hl 2 rfl) ?_
        refine va_iald hx hb hK hP 8 0 rfl rfl (vp_in_nI (by omega) (by omega)) dX4_row_91 ?_
        rw [show (nI t).toNatClampNeg = t from nI_clamp (by omega)]
        rw [h.1 t ht]
        refine lv_icmp_eq (tgt := 98) hx hb dX4_row_92 (by decide) (fun c3 => ?_) (fun c3 => ?_)
        · have heq : nn d = nn t := (nI_eq (by omega) (by omega)).mp c3
          obtain ⟨y_7, ey_7⟩ : ∃ y9 : Int32, y9 = many + 1 := ⟨_, rfl⟩
          refine lv_iinc (v := y_7) (lv' := [(3, .int y_7), (5, .int rw_6), (0, .ref (mA 0)), (1, .int (nI t)), (2, .int w), (4, .int built), (6, .int (nI d))]) hx hb dX4_row_98 hl (k := 4) rfl (by rw [ey_7]; rfl) (by decide) rfl (fun ls hl => ?_)
          refine lv_aload_n hx hb dX4_row_101 rfl (lv_at hl 2 rfl) ?_
          refine va_get (D := (dC, dI)) (ci := 4) (v := .ref (mA 1)) (C := RX4) (T := TX4) (N := 15) hx hb hts (fun w h => woX4_row w (inX4 w h)) hown hK hP 0 rfl rfl 1 (by decide) (hts _ (woX4_row _ wd_494)) (fun _ h9 => h9) rfl dX4_row_102 ?_
          refine lv_aload_n hx hb dX4_row_105 rfl (lv_at hl 2 rfl) ?_
          refine va_get (D := (dC, dI)) (ci := 4) (v := .ref (mA 4)) (C := RX4) (T := TX4) (N := 15) hx hb hts (fun w h => woX4_row w (inX4 w h)) hown hK hP 0 rfl rfl 6 (by decide) (hts _ (woX4_row _ wd_499)) (fun _ h9 => h9) rfl dX4_row_106 ?_
          refine lv_iload hx hb dX4_row_109 (lv_at hl 6 rfl) ?_
          refine va_iald hx hb hK hP 3 0 rfl rfl (vp_in_nI (by omega) (by omega)) dX4_row_111 ?_
          rw [show (nI d).toNatClampNeg = d from nI_clamp (by omega)]
          rw [e1]
          refine va_zald hx hb hK hP 1 2 rfl rfl (vp_in_nI (by omega) (by omega)) dX4_row_112 ?_
          rw [show (nI (mx_sg T d)).toNatClampNeg = (mx_sg T d) from nI_clamp (by omega)]
          rw [e4]
          refine lv_if_eq (tgt := 120) hx hb dX4_row_113 (by decide) (fun c4 => ?_) (fun c4 => ?_)
          · obtain ⟨y_8, ey_8⟩ : ∃ y9 : Int32, y9 = (nI d) + (-1) := ⟨_, rfl⟩
            refine lv_iinc (v := y_8) (lv' := [(6, .int y_8), (3, .int y_7), (5, .int rw_6), (0, .ref (mA 0)), (1, .int (nI t)), (2, .int w), (4, .int built)]) hx hb dX4_row_120 hl (k := 6) rfl (by rw [ey_8]; rfl) (by decide) rfl (fun ls hl => ?_)
            refine lv_goto (tgt := 52) hx hb dX4_row_123 (by decide) ?_
            rw [pm1] at ey_8
            refine ih d y_8 y_7 built rw_6 _ rfl (by omega) ey_8 (ro_in hj0 hI hrw heq ey_7 (ts_nt (fun z => by rw [if_pos z] at c4; exact absurd c4 (by decide)))) (lv_sub hl [3, 4, 5, 1, 6, 2, 0] rfl)
          · refine lv_iload hx hb dX4_row_116 (lv_at hl 6 rfl) ?_
            refine lv_istore (lv' := [(4, .int (nI d)), (3, .int y_7), (5, .int rw_6), (0, .ref (mA 0)), (1, .int (nI t)), (2, .int w), (6, .int (nI d))]) hx hb dX4_row_118 hl (by decide) rfl (fun ls hl => ?_)
            obtain ⟨y_9, ey_9⟩ : ∃ y9 : Int32, y9 = (nI d) + (-1) := ⟨_, rfl⟩
            refine lv_iinc (v := y_9) (lv' := [(6, .int y_9), (4, .int (nI d)), (3, .int y_7), (5, .int rw_6), (0, .ref (mA 0)), (1, .int (nI t)), (2, .int w)]) hx hb dX4_row_120 hl (k := 6) rfl (by rw [ey_9]; rfl) (by decide) rfl (fun ls hl => ?_)
            refine lv_goto (tgt := 52) hx hb dX4_row_123 (by decide) ?_
            rw [pm1] at ey_9
            refine ih d y_9 y_7 (nI d) rw_6 _ rfl (by omega) ey_9 (ro_built hj0 hI hrw heq ey_7 (Classical.byContradiction fun z => c4 (if_neg z))) (lv_sub hl [4, 5, 6, 2, 1, 3, 0] rfl)
        · refine lv_goto (tgt := 120) hx hb dX4_row_95 (by decide) ?_
          obtain ⟨y_10, ey_10⟩ : ∃ y9 : Int32, y9 = (nI d) + (-1) := ⟨_, rfl⟩
          refine lv_iinc (v := y_10) (lv' := [(6, .int y_10), (5, .int rw_6), (0, .ref (mA 0)), (1, .int (nI t)), (2, .int w), (3, .int many), (4, .int built)]) hx hb dX4_row_120 hl (k := 6) rfl (by rw [ey_10]; rfl) (by decide) rfl (fun ls hl => ?_)
          refine lv_goto (tgt := 52) hx hb dX4_row_123 (by decide) ?_
          rw [pm1] at ey_10
          refine ih d y_10 many built rw_6 _ rfl (by omega) ey_10 (ro_skip hj0 hI hrw (fun z => c3 (by rw [z]))) (lv_sub hl [2, 3, 4, 5, 6, 1, 0] rfl)

set_option maxHeartbeats 4000000 in
set_option maxRecDepth 100000 in
/-- the reference: row -/
theorem m_row (l : Launch) (dC : Nat → ClassId) (dI : Nat → Nat → Nat) (cI cJ cZ : ClassId) (T : mx_T) (F : mx_F) (mA : Nat → Nat) (th : Int32) (jo : Int32) (isb : Nat → Int32) (pls : Nat → Int32) (msg : Nat → Int32) (at_ : Nat → Int32) (on : Nat → Int32) (tw : Nat → Int32) (sa : Nat → Int32) (le : Nat → Int32) (a : Int32) (w : Int32) (sz : Nat) (hw : mx_wf T) (hpf : mx_pf T) (hn : mx_n T ≤ 60) (hmt : md_T T isb pls msg at_) (hmf : mx_m F ≤ 40 ∧ ∀ f, f < mx_m F → on f = nI (mx_lf F f) ∧ tw f = nI (mx_rt F f) ∧ mx_lf F f < mx_n T ∧ mx_rt F f < mx_n T ∧ sa f = (if mx_sm F f = true then 1 else 0)) : Met l yX4_row wsX4_row ({ frames := 2, cells := 0, slots := 0, locals := 53 }) (va_Pc [.ref (mA 0), .int a, .int w] (fun U => U.heap.size = sz ∧ va_P (dC, dI) vwCl [(mA 0, .inr (4, [.int th, .ref (mA 1), .ref (mA 2), .ref (mA 3), .int (nI (mx_n T)), .int (nI (mx_m F)), .ref (mA 4), .ref (mA 5), .ref (mA 6), .ref (mA 7), .ref (mA 8), .ref (mA 9), .int jo, .ref (mA 10), .ref (mA 11)])), (mA 1, .inl (cZ, 16, .inl isb)), (mA 3, .inl (cI, 16, .inl pls)), (mA 4, .inl (cI, 60, .inl msg)), (mA 5, .inl (cI, 180, .inl at_)), (mA 6, .inl (cI, 40, .inl on)), (mA 7, .inl (cI, 40, .inl tw)), (mA 8, .inl (cZ, 40, .inl sa)), (mA 9, .inl (cI, 60, .inl le))] U.heap ∧ va_K (dC, dI) vwCl [(cI, .int), (cJ, .long), (cZ, .boolean)] U ∧ va_D (fun _ => True) [(mA 0, .inr (4, [.int th, .ref (mA 1), .ref (mA 2), .ref (mA 3), .int (nI (mx_n T)), .int (nI (mx_m F)), .ref (mA 4), .ref (mA 5), .ref (mA 6), .ref (mA 7), .ref (mA 8), .ref (mA 9), .int jo, .ref (mA 10), .ref (mA 11)])), (mA 1, .inl (cZ, 16, .inl isb)), (mA 3, .inl (cI, 16, .inl pls)), (mA 4, .inl (cI, 60, .inl msg)), (mA 5, .inl (cI, 180, .inl at_)), (mA 6, .inl (cI, 40, .inl on)), (mA 7, .inl (cI, 40, .inl tw)), (mA 8, .inl (cZ, 40, .inl sa)), (mA 9, .inl (cI, 60, .inl le))])) (va_Qi (fun r u => an_2 T a a u.1 (fun x _ => ∃ nn, mx_lst T (mx_E F (al_S F) (mx_m F)) nn ∧ ro_P T nn x w r)) (fun (u : Int32 × (Nat → Int32) × Int32) t7 => match u with | (th2, le2, jo2) => va_P (dC, dI) vwCl [(mA 0, .inr (4, [.int th2, .ref (mA 1), .ref (mA 2), .ref (mA 3), .int (nI (mx_n T)), .int (nI (mx_m F)), .ref (mA 4), .ref (mA 5), .ref (mA 6), .ref (mA 7), .ref (mA 8), .ref (mA 9), .int jo2, .ref (mA 10), .ref (mA 11)])), (mA 1, .inl (cZ, 16, .inl isb)), (mA 3, .inl (cI, 16, .inl pls)), (mA 4, .inl (cI, 60, .inl msg)), (mA 5, .inl (cI, 180, .inl at_)), (mA 6, .inl (cI, 40, .inl on)), (mA 7, .inl (cI, 40, .inl tw)), (mA 8, .inl (cZ, 40, .inl sa)), (mA 9, .inl (cI, 60, .inl le2))] t7.heap ∧ va_K (dC, dI) vwCl [(cI, .int), (cJ, .long), (cZ, .boolean)] t7 ∧ va_D (va_A [(mA 0, .inr (4, [.int th, .ref (mA 1), .ref (mA 2), .ref (mA 3), .int (nI (mx_n T)), .int (nI (mx_m F)), .ref (mA 4), .ref (mA 5), .ref (mA 6), .ref (mA 7), .ref (mA 8), .ref (mA 9), .int jo, .ref (mA 10), .ref (mA 11)])), (mA 1, .inl (cZ, 16, .inl isb)), (mA 3, .inl (cI, 16, .inl pls)), (mA 4, .inl (cI, 60, .inl msg)), (mA 5, .inl (cI, 180, .inl at_)), (mA 6, .inl (cI, 40, .inl on)), (mA 7, .inl (cI, 40, .inl tw)), (mA 8, .inl (cZ, 40, .inl sa)), (mA 9, .inl (cI, 60, .inl le))] sz) [(mA 0, .inr (4, [.int th2, .ref (mA 1), .ref (mA 2), .ref (mA 3), .int (nI (mx_n T)), .int (nI (mx_m F)), .ref (mA 4), .ref (mA 5), .ref (mA 6), .ref (mA 7), .ref (mA 8), .ref (mA 9), .int jo2, .ref (mA 10), .ref (mA 11)])), (mA 1, .inl (cZ, 16, .inl isb)), (mA 3, .inl (cI, 16, .inl pls)), (mA 4, .inl (cI, 60, .inl msg)), (mA 5, .inl (cI, 180, .inl at_)), (mA 6, .inl (cI, 40, .inl on)), (mA 7, .inl (cI, 40, .inl tw)), (mA 8, .inl (cZ, 40, .inl sa)), (mA 9, .inl (cI, 60, .inl le2))]) (va_A [(mA 0, .inr (4, [.int th, .ref (mA 1), .ref (mA 2), .ref (mA 3), .int (nI (mx_n T)), .int (nI (mx_m F)), .ref (mA 4), .ref (mA 5), .ref (mA 6), .ref (mA 7), .ref (mA 8), .ref (mA 9), .int jo, .ref (mA 10), .ref (mA 11)])), (mA 1, .inl (cZ, 16, .inl isb)), (mA 3, .inl (cI, 16, .inl pls)), (mA 4, .inl (cI, 60, .inl msg)), (mA 5, .inl (cI, 180, .inl at_)), (mA 6, .inl (cI, 40, .inl on)), (mA 7, .inl (cI, 40, .inl tw)), (mA 8, .inl (cZ, 40, .inl sa)), (mA 9, .inl (cI, 60, .inl le))] sz)) 0 0 (va_A [(mA 0, .inr (4, [.int th, .ref (mA 1), .ref (mA 2), .ref (mA 3), .int (nI (mx_n T)), .int (nI (mx_m F)), .ref (mA 4), .ref (mA 5), .ref (mA 6), .ref (mA 7), .ref (mA 8), .ref (mA 9), .int jo, .ref (mA 10), .ref (mA 11)])), (mA 1, .inl (cZ, 16, .inl isb)), (mA 3, .inl (cI, 16, .inl pls)), (mA 4, .inl (cI, 60, .inl msg)), (mA 5, .inl (cI, 180, .inl at_)), (mA 6, .inl (cI, 40, .inl on)), (mA 7, .inl (cI, 40, .inl tw)), (mA 8, .inl (cZ, 40, .inl sa)), (mA 9, .inl (cI, 60, .inl le))] sz) := by
  refine Met.ofW (cc := cX4_row) (maxL := 7) (ret := (some .int)) (by decide) rfl ?_
  intro p e s m args below meth c s₁ B hml hv
  obtain ⟨rfl, hsz, hP, hK, hD0⟩ := hv
  have hx := B.exec
  have hb := B.bytes
  have hr := B.returns
  have hts := atoms_spec (ws := wsX4_row) B.pre
  have hown : s.vm.findClass RX4 = some m.cls := findClass_of_methodNamed B.named
  have hlocks := B.notSynchronized
  subst hsz
  have hD := hD0.self (sz := s.heap.size)
  generalize hAe : va_A [(mA 0, .inr (4, [.int th, .ref (mA 1), .ref (mA 2), .ref (mA 3), .int (nI (mx_n T)), .int (nI (mx_m F)), .ref (mA 4), .ref (mA 5), .ref (mA 6), .ref (mA 7), .ref (mA 8), .ref (mA 9), .int jo, .ref (mA 10), .ref (mA 11)])), (mA 1, .inl (cZ, 16, .inl isb)), (mA 3, .inl (cI, 16, .inl pls)), (mA 4, .inl (cI, 60, .inl msg)), (mA 5, .inl (cI, 180, .inl at_)), (mA 6, .inl (cI, 40, .inl on)), (mA 7, .inl (cI, 40, .inl tw)), (mA 8, .inl (cZ, 40, .inl sa)), (mA 9, .inl (cI, 60, .inl le))] s.heap.size = A at hD ⊢
  have hA : ∀ q : Nat, s.heap.size ≤ q → A q := fun q h => by rw [← hAe]; exact Or.inr h
  have hS : va_S A s.heap s.heap [] := va_S.rf
  have hP : va_P (dC, dI) vwCl [(mA 0, .inr (4, [.int th, .ref (mA 1), .ref (mA 2), .ref (mA 3), .int (nI (mx_n T)), .int (nI (mx_m F)), .ref (mA 4), .ref (mA 5), .ref (mA 6), .ref (mA 7), .ref (mA 8), .ref (mA 9), .int jo, .ref (mA 10), .ref (mA 11)])), (mA 1, .inl (cZ, 16, .inl isb)), (mA 3, .inl (cI, 16, .inl pls)), (mA 4, .inl (cI, 60, .inl msg)), (mA 5, .inl (cI, 180, .inl at_)), (mA 6, .inl (cI, 40, .inl on)), (mA 7, .inl (cI, 40, .inl tw)), (mA 8, .inl (cZ, 40, .inl sa)), (mA 9, .inl (cI, 60, .inl le))] s.heap := hP
  have hl := lv_entry ([.ref (mA 0), .int a, .int w]) (n := 7) (Nat.le_of_ble_eq_true rfl)
  rw [lg_entry_eq]
  generalize (lg_sl ([.ref (mA 0), .int a, .int w]) ++ List.replicate (7 - (lg_sl ([.ref (mA 0), .int a, .int w])).length) Slot.unset).toArray = ls at hl ⊢
  have hl : lv_has ls 7 [(0, .ref (mA 0)), (1, .int a), (2, .int w)] := hl
  refine lv_aload_n hx hb dX4_row_0 rfl (lv_at hl 0 rfl) ?_
  refine lv_aload_n hx hb dX4_row_1 rfl (lv_at hl 0 rfl) ?_
  refine lv_iload_n hx hb dX4_row_2 rfl (lv_at hl 1 rfl) ?_
  have hPc := hP.sub (ws' := [(mA 0, .inr (4, [.int th, .ref (mA 1), .ref (mA 2), .ref (mA 3), .int (nI (mx_n T)), .int (nI (mx_m F)), .ref (mA 4), .ref (mA 5), .ref (mA 6), .ref (mA 7), .ref (mA 8), .ref (mA 9), .int jo, .ref (mA 10), .ref (mA 11)]))]) [0] rfl
  refine vp_callSi (W.runV (As := [.int a]) (rest := [.ref (mA 0)]) ⟨hx, hb, hml, hown, hts⟩ (m_isTerm l dC dI cI cJ cZ T F mA th jo a hn) (cwV 1 hts (w0_goodV woX4_row wd_558 wd_555 wd_557 ws_13 wd_5) rfl rfl rfl (by decide +kernel) ⟨Nat.le_of_ble_eq_true rfl, Nat.le_of_ble_eq_true rfl⟩) ⟨fun a U g mk q => by obtain ⟨q0, qP, qK⟩ := q; exact ⟨q0, qP, va_K.moved (u := U) (U := U.calling g mk a) (Vm.Alike.refl U.vm) qK⟩, va_recv hK hP (ci := 4) (q0 := 0) rfl rfl, fun U hU hW => ⟨rfl, by rw [hU]; exact hPc, va_K.moved hW.alike hK⟩⟩ rfl rfl hl.1 rfl (lv_room (Nat.le_of_ble_eq_true rfl)) dX4_row_3 ⟨Nat.zero_le _, Nat.zero_le _⟩) (fun r1 hr1 => ?_)
  refine lv_if_eq (tgt := 13) hx hb dX4_row_6 (by decide) (fun c1 => ?_) (fun c1 => ?_)
  · have hbad : ¬ (ix (mx_n T) a ∧ ix (mx_n T) a) := fun z => zb_f hr1 c1 z.1
    refine lv_iconst (v := 1) hx hb dX4_row_13 (by decide) ?_
    refine va_put (D := (dC, dI)) (ci := 4) (v := .int 1) (ty := .int) (C := RX4) (T := TX4) (N := 15) hx hb hts (fun w h => woX4_row w (inX4 w h)) tyX4 tyX4_ok nmX4 hown hK hP hD hS 0 rfl rfl 0 (by decide) (hts _ (woX4_row _ wd_493)) (fun _ h9 => h9) rfl (by decide +kernel) rfl rfl (Nat.le_of_ble_eq_true rfl) dX4_row_14 (fun H locs hP hD hS => ?_)
    have hP : va_P (dC, dI) vwCl [(mA 0, .inr (4, [.int 1, .ref (mA 1), .ref (mA 2), .ref (mA 3), .int (nI (mx_n T)), .int (nI (mx_m F)), .ref (mA 4), .ref (mA 5), .ref (mA 6), .ref (mA 7), .ref (mA 8), .ref (mA 9), .int jo, .ref (mA 10), .ref (mA 11)])), (mA 1, .inl (cZ, 16, .inl isb)), (mA 3, .inl (cI, 16, .inl pls)), (mA 4, .inl (cI, 60, .inl msg)), (mA 5, .inl (cI, 180, .inl at_)), (mA 6, .inl (cI, 40, .inl on)), (mA 7, .inl (cI, 40, .inl tw)), (mA 8, .inl (cZ, 40, .inl sa)), (mA 9, .inl (cI, 60, .inl le))] H := hP
    have hD : va_D A [(mA 0, .inr (4, [.int 1, .ref (mA 1), .ref (mA 2), .ref (mA 3), .int (nI (mx_n T)), .int (nI (mx_m F)), .ref (mA 4), .ref (mA 5), .ref (mA 6), .ref (mA 7), .ref (mA 8), .ref (mA 9), .int jo, .ref (mA 10), .ref (mA 11)])), (mA 1, .inl (cZ, 16, .inl isb)), (mA 3, .inl (cI, 16, .inl pls)), (mA 4, .inl (cI, 60, .inl msg)), (mA 5, .inl (cI, 180, .inl at_)), (mA 6, .inl (cI, 40, .inl on)), (mA 7, .inl (cI, 40, .inl tw)), (mA 8, .inl (cZ, 40, .inl sa)), (mA 9, .inl (cI, 60, .inl le))] := hD
    refine lv_aload_n hx hb dX4_row_17 rfl (lv_at hl 0 rfl) ?_
    refine va_get (D := (dC, dI)) (ci := 4) (v := .int 1) (C := RX4) (T := TX4) (N := 15) hx hb hts (fun w h => woX4_row w (inX4 w h)) hown hK hP 0 rfl rfl 0 (by decide) (hts _ (woX4_row _ wd_493)) (fun _ h9 => h9) rfl dX4_row_18 ?_
    refine lv_if_le (tgt := 26) hx hb dX4_row_21 (by decide) (fun c9 => ?_) (fun c9 => ?_)
    · exact absurd c9 (by decide)
    · refine lv_iconst (v := 0) hx hb dX4_row_24 (by decide) ?_
      have hP9 := hP.sub (ws' := [(mA 0, .inr (4, [.int 1, .ref (mA 1), .ref (mA 2), .ref (mA 3), .int (nI (mx_n T)), .int (nI (mx_m F)), .ref (mA 4), .ref (mA 5), .ref (mA 6), .ref (mA 7), .ref (mA 8), .ref (mA 9), .int jo, .ref (mA 10), .ref (mA 11)])), (mA 1, .inl (cZ, 16, .inl isb)), (mA 3, .inl (cI, 16, .inl pls)), (mA 4, .inl (cI, 60, .inl msg)), (mA 5, .inl (cI, 180, .inl at_)), (mA 6, .inl (cI, 40, .inl on)), (mA 7, .inl (cI, 40, .inl tw)), (mA 8, .inl (cZ, 40, .inl sa)), (mA 9, .inl (cI, 60, .inl le))]) [0, 1, 2, 3, 4, 5, 6, 7, 8] rfl
      have hD9 := hD.sub (ws' := [(mA 0, .inr (4, [.int 1, .ref (mA 1), .ref (mA 2), .ref (mA 3), .int (nI (mx_n T)), .int (nI (mx_m F)), .ref (mA 4), .ref (mA 5), .ref (mA 6), .ref (mA 7), .ref (mA 8), .ref (mA 9), .int jo, .ref (mA 10), .ref (mA 11)])), (mA 1, .inl (cZ, 16, .inl isb)), (mA 3, .inl (cI, 16, .inl pls)), (mA 4, .inl (cI, 60, .inl msg)), (mA 5, .inl (cI, 180, .inl at_)), (mA 6, .inl (cI, 40, .inl on)), (mA 7, .inl (cI, 40, .inl tw)), (mA 8, .inl (cZ, 40, .inl sa)), (mA 9, .inl (cI, 60, .inl le))]) [0, 1, 2, 3, 4, 5, 6, 7, 8] (by decide) rfl
      exact W.iret (v := 0) hx hb hr (fun t9 ht9 hW9 => ⟨⟨0, (1, le, jo), rfl, Or.inr ⟨hbad, rfl⟩, by rw [ht9]; exact hP9, va_K.moved hW9.alike hK, hD9⟩, hS.F ht9⟩) hS.2.2 dX4_row_25
  · obtain ⟨x, hx0, rfl⟩ := zb_t hr1 c1
    refine lv_iconst (v := 0) hx hb dX4_row_9 (by decide) ?_
    refine lv_goto (tgt := 14) hx hb dX4_row_10 (by decide) ?_
    refine va_put (D := (dC, dI)) (ci := 4) (v := .int 0) (ty := .int) (C := RX4) (T := TX4) (N := 15) hx hb hts (fun w h => woX4_row w (inX4 w h)) tyX4 tyX4_ok nmX4 hown hK hP hD hS 0 rfl rfl 0 (by decide) (hts _ (woX4_row _ wd_493)) (fun _ h9 => h9) rfl (by decide +kernel) rfl rfl (Nat.le_of_ble_eq_true rfl) dX4_row_14 (fun H locs hP hD hS => ?_)
    have hP : va_P (dC, dI) vwCl [(mA 0, .inr (4, [.int 0, .ref (mA 1), .ref (mA 2), .ref (mA 3), .int (nI (mx_n T)), .int (nI (mx_m F)), .ref (mA 4), .ref (mA 5), .ref (mA 6), .ref (mA 7), .ref (mA 8), .ref (mA 9), .int jo, .ref (mA 10), .ref (mA 11)])), (mA 1, .inl (cZ, 16, .inl isb)), (mA 3, .inl (cI, 16, .inl pls)), (mA 4, .inl (cI, 60, .inl msg)), (mA 5, .inl (cI, 180, .inl at_)), (mA 6, .inl (cI, 40, .inl on)), (mA 7, .inl (cI, 40, .inl tw)), (mA 8, .inl (cZ, 40, .inl sa)), (mA 9, .inl (cI, 60, .inl le))] H := hP
    have hD : va_D A [(mA 0, .inr (4, [.int 0, .ref (mA 1), .ref (mA 2), .ref (mA 3), .int (nI (mx_n T)), .int (nI (mx_m F)), .ref (mA 4), .ref (mA 5), .ref (mA 6), .ref (mA 7), .ref (mA 8), .ref (mA 9), .int jo, .ref (mA 10), .ref (mA 11)])), (mA 1, .inl (cZ, 16, .inl isb)), (mA 3, .inl (cI, 16, .inl pls)), (mA 4, .inl (cI, 60, .inl msg)), (mA 5, .inl (cI, 180, .inl at_)), (mA 6, .inl (cI, 40, .inl on)), (mA 7, .inl (cI, 40, .inl tw)), (mA 8, .inl (cZ, 40, .inl sa)), (mA 9, .inl (cI, 60, .inl le))] := hD
    refine lv_aload_n hx hb dX4_row_17 rfl (lv_at hl 0 rfl) ?_
    refine va_get (D := (dC, dI)) (ci := 4) (v := .int 0) (C := RX4) (T := TX4) (N := 15) hx hb hts (fun w h => woX4_row w (inX4 w h)) hown hK hP 0 rfl rfl 0 (by decide) (hts _ (woX4_row _ wd_493)) (fun _ h9 => h9) rfl dX4_row_18 ?_
    refine lv_if_le (tgt := 26) hx hb dX4_row_21 (by decide) (fun c9 => ?_) (fun c9 => ?_)
    · refine lv_aload_n hx hb dX4_row_26 rfl (lv_at hl 0 rfl) ?_
      refine lv_aload_n hx hb dX4_row_27 rfl (lv_at hl 0 rfl) ?_
      have hPc := hP.sub (ws' := [(mA 0, .inr (4, [.int 0, .ref (mA 1), .ref (mA 2), .ref (mA 3), .int (nI (mx_n T)), .int (nI (mx_m F)), .ref (mA 4), .ref (mA 5), .ref (mA 6), .ref (mA 7), .ref (mA 8), .ref (mA 9), .int jo, .ref (mA 10), .ref (mA 11)]))]) [0] rfl
      refine vp_callSl (W.runV (As := []) (rest := [.ref (mA 0)]) ⟨hx, hb, hml, hown, hts⟩ (m_all l dC dI cI cJ cZ T F mA 0 jo hmf.1) (cwV 0 hts (w0_goodV woX4_row wd_582 wd_579 wd_581 ws_15 wd_5) rfl rfl rfl (by decide +kernel) ⟨Nat.le_of_ble_eq_true rfl, Nat.le_of_ble_eq_true rfl⟩) ⟨fun a U g mk q => by obtain ⟨q0, qP, qK⟩ := q; exact ⟨q0, qP, va_K.moved (u := U) (U := U.calling g mk a) (Vm.Alike.refl U.vm) qK⟩, va_recv hK hP (ci := 4) (q0 := 0) rfl rfl, fun U hU hW => ⟨rfl, by rw [hU]; exact hPc, va_K.moved hW.alike hK⟩⟩ rfl rfl hl.1 rfl (lv_room (Nat.le_of_ble_eq_true rfl)) dX4_row_28 ⟨Nat.zero_le _, Nat.zero_le _⟩) (fun al hal => ?_)
      have hal : jb al = al_S F := funext hal
      refine lv_iload_n hx hb dX4_row_31 rfl (lv_at hl 1 rfl) ?_
      refine lv_iload_n hx hb dX4_row_32 rfl (lv_at hl 1 rfl) ?_
      have hPc := hP.sub (ws' := [(mA 0, .inr (4, [.int 0, .ref (mA 1), .ref (mA 2), .ref (mA 3), .int (nI (mx_n T)), .int (nI (mx_m F)), .ref (mA 4), .ref (mA 5), .ref (mA 6), .ref (mA 7), .ref (mA 8), .ref (mA 9), .int jo, .ref (mA 10), .ref (mA 11)])), (mA 1, .inl (cZ, 16, .inl isb)), (mA 3, .inl (cI, 16, .inl pls)), (mA 4, .inl (cI, 60, .inl msg)), (mA 5, .inl (cI, 180, .inl at_)), (mA 6, .inl (cI, 40, .inl on)), (mA 7, .inl (cI, 40, .inl tw)), (mA 8, .inl (cZ, 40, .inl sa)), (mA 9, .inl (cI, 60, .inl le))]) [0, 1, 2, 3, 4, 5, 6, 7, 8] rfl
      have hDc := hD.sub (ws' := [(mA 0, .inr (4, [.int 0, .ref (mA 1), .ref (mA 2), .ref (mA 3), .int (nI (mx_n T)), .int (nI (mx_m F)), .ref (mA 4), .ref (mA 5), .ref (mA 6), .ref (mA 7), .ref (mA 8), .ref (mA 9), .int jo, .ref (mA 10), .ref (mA 11)])), (mA 1, .inl (cZ, 16, .inl isb)), (mA 3, .inl (cI, 16, .inl pls)), (mA 4, .inl (cI, 60, .inl msg)), (mA 5, .inl (cI, 180, .inl at_)), (mA 6, .inl (cI, 40, .inl on)), (mA 7, .inl (cI, 40, .inl tw)), (mA 8, .inl (cZ, 40, .inl sa)), (mA 9, .inl (cI, 60, .inl le))]) [0, 1, 2, 3, 4, 5, 6, 7, 8] (by decide) rfl
      have hFc := va_free (wc := [(mA 0, .inr (4, [.int 0, .ref (mA 1), .ref (mA 2), .ref (mA 3), .int (nI (mx_n T)), .int (nI (mx_m F)), .ref (mA 4), .ref (mA 5), .ref (mA 6), .ref (mA 7), .ref (mA 8), .ref (mA 9), .int jo, .ref (mA 10), .ref (mA 11)])), (mA 1, .inl (cZ, 16, .inl isb)), (mA 3, .inl (cI, 16, .inl pls)), (mA 4, .inl (cI, 60, .inl msg)), (mA 5, .inl (cI, 180, .inl at_)), (mA 6, .inl (cI, 40, .inl on)), (mA 7, .inl (cI, 40, .inl tw)), (mA 8, .inl (cZ, 40, .inl sa)), (mA 9, .inl (cI, 60, .inl le))]) hD hS hA [0, 1, 2, 3, 4, 5, 6, 7, 8] rfl
      refine va_callv (va_runV (As := [.long al, .int (nI x), .int (nI x)]) (rest := []) ⟨hx, hb, hml, hown, hts⟩ (m_joinAll l dC dI cI cJ cZ T F mA 0 jo isb pls msg at_ on tw sa le al x x H.size hw hpf hn hmt hmf (fun _ => ⟨hx0, hx0⟩)) (cwV 3 hts (w0_goodV woX4_row wd_586 wd_583 wd_585 ws_16 wd_5) rfl rfl rfl (by decide +kernel) ⟨Nat.le_of_ble_eq_true rfl, Nat.le_of_ble_eq_true rfl⟩) ⟨fun a U g mk q => by obtain ⟨q0, q1, qP, qK, qD⟩ := q; exact ⟨q0, q1, qP, va_K.moved (u := U) (U := U.calling g mk a) (Vm.Alike.refl U.vm) qK, qD⟩, va_recv hK hP (ci := 4) (q0 := 0) rfl rfl, fun U hU hW => ⟨rfl, by rw [hU], by rw [hU]; exact hPc, va_K.moved hW.alike hK, hDc.weaken (fun _ _ _ _ => trivial)⟩⟩ rfl rfl hl.1 rfl (lv_room (Nat.le_of_ble_eq_true rfl)) dX4_row_33 ⟨Nat.zero_le _, Nat.zero_le _⟩) hS (fun q _ h => hFc q h) hFc (fun u t8 H1 locs ht8 hvm hj hB hz1 hk1 hS => ?_)
      obtain ⟨le2_1, jo2_1⟩ := u
      obtain ⟨hP1, hK1, hD1⟩ := hB
      rw [ht8] at hP1
      try dsimp only at hj
      obtain ⟨hP, hD⟩ := va_join (wr := []) (w1 := [(mA 0, .inr (4, [.int 0, .ref (mA 1), .ref (mA 2), .ref (mA 3), .int (nI (mx_n T)), .int (nI (mx_m F)), .ref (mA 4), .ref (mA 5), .ref (mA 6), .ref (mA 7), .ref (mA 8), .ref (mA 9), .int jo2_1, .ref (mA 10), .ref (mA 11)])), (mA 1, .inl (cZ, 16, .inl isb)), (mA 3, .inl (cI, 16, .inl pls)), (mA 4, .inl (cI, 60, .inl msg)), (mA 5, .inl (cI, 180, .inl at_)), (mA 6, .inl (cI, 40, .inl on)), (mA 7, .inl (cI, 40, .inl tw)), (mA 8, .inl (cZ, 40, .inl sa)), (mA 9, .inl (cI, 60, .inl le2_1))]) hP hD [0, 1, 2, 3, 4, 5, 6, 7, 8] [] rfl rfl (by decide) (by decide) hk1 hFc hP1 hD1
      have hP := hP.sub (ws' := [(mA 0, .inr (4, [.int 0, .ref (mA 1), .ref (mA 2), .ref (mA 3), .int (nI (mx_n T)), .int (nI (mx_m F)), .ref (mA 4), .ref (mA 5), .ref (mA 6), .ref (mA 7), .ref (mA 8), .ref (mA 9), .int jo2_1, .ref (mA 10), .ref (mA 11)])), (mA 1, .inl (cZ, 16, .inl isb)), (mA 3, .inl (cI, 16, .inl pls)), (mA 4, .inl (cI, 60, .inl msg)), (mA 5, .inl (cI, 180, .inl at_)), (mA 6, .inl (cI, 40, .inl on)), (mA 7, .inl (cI, 40, .inl tw)), (mA 8, .inl (cZ, 40, .inl sa)), (mA 9, .inl (cI, 60, .inl le2_1))]) [0, 1, 2, 3, 4, 5, 6, 7, 8] rfl
      have hD := hD.sub (ws' := [(mA 0, .inr (4, [.int 0, .ref (mA 1), .ref (mA 2), .ref (mA 3), .int (nI (mx_n T)), .int (nI (mx_m F)), .ref (mA 4), .ref (mA 5), .ref (mA 6), .ref (mA 7), .ref (mA 8), .ref (mA 9), .int jo2_1, .ref (mA 10), .ref (mA 11)])), (mA 1, .inl (cZ, 16, .inl isb)), (mA 3, .inl (cI, 16, .inl pls)), (mA 4, .inl (cI, 60, .inl msg)), (mA 5, .inl (cI, 180, .inl at_)), (mA 6, .inl (cI, 40, .inl on)), (mA 7, .inl (cI, 40, .inl tw)), (mA 8, .inl (cZ, 40, .inl sa)), (mA 9, .inl (cI, 60, .inl le2_1))]) [0, 1, 2, 3, 4, 5, 6, 7, 8] (by decide) rfl
      generalize H1 = H at hP hS ⊢
      obtain ⟨nn, g1, g2⟩ := hj
      have g1 : md_L T nn le2_1 := g1
      rw [hal] at g2
      have g3 := ja_same (fun _ => hx0) g2
      have n1 := g1.2 x hx0
      refine lv_iconst (v := 0) hx hb dX4_row_36 (by decide) ?_
      refine lv_istore_n (lv' := [(3, .int 0), (0, .ref (mA 0)), (1, .int (nI x)), (2, .int w)]) hx hb dX4_row_37 rfl hl (by decide) rfl (fun ls hl => ?_)
      refine lv_iconst (v := (-1)) hx hb dX4_row_38 (by decide) ?_
      refine lv_istore (lv' := [(4, .int (-1)), (3, .int 0), (0, .ref (mA 0)), (1, .int (nI x)), (2, .int w)]) hx hb dX4_row_39 hl (by decide) rfl (fun ls hl => ?_)
      refine lv_iconst (v := 0) hx hb dX4_row_41 (by decide) ?_
      refine lv_istore (lv' := [(5, .int 0), (4, .int (-1)), (3, .int 0), (0, .ref (mA 0)), (1, .int (nI x)), (2, .int w)]) hx hb dX4_row_42 hl (by decide) rfl (fun ls hl => ?_)
      refine lv_aload_n hx hb dX4_row_44 rfl (lv_at hl 3 rfl) ?_
      refine va_get (D := (dC, dI)) (ci := 4) (v := .int (nI (mx_n T))) (C := RX4) (T := TX4) (N := 15) hx hb hts (fun w h => woX4_row w (inX4 w h)) hown hK hP 0 rfl rfl 4 (by decide) (hts _ (woX4_row _ wd_497)) (fun _ h9 => h9) rfl dX4_row_45 ?_
      refine lv_iconst (v := 1) hx hb dX4_row_48 (by decide) ?_
      refine lv_isub hx hb dX4_row_49 ?_
      refine lv_istore (lv' := [(6, .int ((nI (mx_n T)) - 1)), (5, .int 0), (4, .int (-1)), (3, .int 0), (0, .ref (mA 0)), (1, .int (nI x)), (2, .int w)]) hx hb dX4_row_50 hl (by decide) rfl (fun ls hl => ?_)
      refine ro_l hx hb hown hts hK hw hpf hn hmt hmf g1 hx0 hP hml (fun many built rows ls hI9 hl => ?_) (mx_n T) (mx_n T) (nI (mx_n T) - 1) 0 (-1) 0 _ rfl (Nat.le_refl _) rfl ro_I0 (lv_sub hl [4, 5, 6, 3, 2, 1, 0] rfl)
      refine lv_iload_n hx hb dX4_row_126 rfl (lv_at hl 2 rfl) ?_
      refine lv_if_ne (tgt := 139) hx hb dX4_row_127 (by decide) (fun d0 => ?_) (fun d0 => ?_)
      · refine lv_iload_n hx hb dX4_row_139 rfl (lv_at hl 2 rfl) ?_
        refine lv_iconst (v := 1) hx hb dX4_row_140 (by decide) ?_
        refine lv_icmp_ne (tgt := 148) hx hb dX4_row_141 (by decide) (fun d1 => ?_) (fun d1 => ?_)
        · refine lv_iload_n hx hb dX4_row_148 rfl (lv_at hl 2 rfl) ?_
          refine lv_iconst (v := 2) hx hb dX4_row_149 (by decide) ?_
          refine lv_icmp_ne (tgt := 158) hx hb dX4_row_150 (by decide) (fun d2 => ?_) (fun d2 => ?_)
          · refine lv_iload_n hx hb dX4_row_158 rfl (lv_at hl 2 rfl) ?_
            refine lv_iconst (v := 3) hx hb dX4_row_159 (by decide) ?_
            refine lv_icmp_ne (tgt := 168) hx hb dX4_row_160 (by decide) (fun d3 => ?_) (fun d3 => ?_)
            · refine lv_iconst (v := (-1)) hx hb dX4_row_168 (by decide) ?_
              have hP9 := hP.sub (ws' := [(mA 0, .inr (4, [.int 0, .ref (mA 1), .ref (mA 2), .ref (mA 3), .int (nI (mx_n T)), .int (nI (mx_m F)), .ref (mA 4), .ref (mA 5), .ref (mA 6), .ref (mA 7), .ref (mA 8), .ref (mA 9), .int jo2_1, .ref (mA 10), .ref (mA 11)])), (mA 1, .inl (cZ, 16, .inl isb)), (mA 3, .inl (cI, 16, .inl pls)), (mA 4, .inl (cI, 60, .inl msg)), (mA 5, .inl (cI, 180, .inl at_)), (mA 6, .inl (cI, 40, .inl on)), (mA 7, .inl (cI, 40, .inl tw)), (mA 8, .inl (cZ, 40, .inl sa)), (mA 9, .inl (cI, 60, .inl le2_1))]) [0, 1, 2, 3, 4, 5, 6, 7, 8] rfl
              have hD9 := hD.sub (ws' := [(mA 0, .inr (4, [.int 0, .ref (mA 1), .ref (mA 2), .ref (mA 3), .int (nI (mx_n T)), .int (nI (mx_m F)), .ref (mA 4), .ref (mA 5), .ref (mA 6), .ref (mA 7), .ref (mA 8), .ref (mA 9), .int jo2_1, .ref (mA 10), .ref (mA 11)])), (mA 1, .inl (cZ, 16, .inl isb)), (mA 3, .inl (cI, 16, .inl pls)), (mA 4, .inl (cI, 60, .inl msg)), (mA 5, .inl (cI, 180, .inl at_)), (mA 6, .inl (cI, 40, .inl on)), (mA 7, .inl (cI, 40, .inl tw)), (mA 8, .inl (cZ, 40, .inl sa)), (mA 9, .inl (cI, 60, .inl le2_1))]) [0, 1, 2, 3, 4, 5, 6, 7, 8] (by decide) rfl
              exact W.iret (v := (-1)) hx hb hr (fun t9 ht9 hW9 => ⟨⟨(-1), (0, le2_1, jo2_1), rfl, Or.inl ⟨x, x, hx0, hx0, rfl, rfl, rfl, nn, g3, ro_end g1.2 hx0 hI9 (by rw [if_neg d0, if_neg d1, if_neg d2, if_neg d3])⟩, by rw [ht9]; exact hP9, va_K.moved hW9.alike hK, hD9⟩, hS.F ht9⟩) hS.2.2 dX4_row_169
            · refine lv_iload hx hb dX4_row_163 (lv_at hl 5 rfl) ?_
              refine lv_goto (tgt := 169) hx hb dX4_row_165 (by decide) ?_
              have hP9 := hP.sub (ws' := [(mA 0, .inr (4, [.int 0, .ref (mA 1), .ref (mA 2), .ref (mA 3), .int (nI (mx_n T)), .int (nI (mx_m F)), .ref (mA 4), .ref (mA 5), .ref (mA 6), .ref (mA 7), .ref (mA 8), .ref (mA 9), .int jo2_1, .ref (mA 10), .ref (mA 11)])), (mA 1, .inl (cZ, 16, .inl isb)), (mA 3, .inl (cI, 16, .inl pls)), (mA 4, .inl (cI, 60, .inl msg)), (mA 5, .inl (cI, 180, .inl at_)), (mA 6, .inl (cI, 40, .inl on)), (mA 7, .inl (cI, 40, .inl tw)), (mA 8, .inl (cZ, 40, .inl sa)), (mA 9, .inl (cI, 60, .inl le2_1))]) [0, 1, 2, 3, 4, 5, 6, 7, 8] rfl
              have hD9 := hD.sub (ws' := [(mA 0, .inr (4, [.int 0, .ref (mA 1), .ref (mA 2), .ref (mA 3), .int (nI (mx_n T)), .int (nI (mx_m F)), .ref (mA 4), .ref (mA 5), .ref (mA 6), .ref (mA 7), .ref (mA 8), .ref (mA 9), .int jo2_1, .ref (mA 10), .ref (mA 11)])), (mA 1, .inl (cZ, 16, .inl isb)), (mA 3, .inl (cI, 16, .inl pls)), (mA 4, .inl (cI, 60, .inl msg)), (mA 5, .inl (cI, 180, .inl at_)), (mA 6, .inl (cI, 40, .inl on)), (mA 7, .inl (cI, 40, .inl tw)), (mA 8, .inl (cZ, 40, .inl sa)), (mA 9, .inl (cI, 60, .inl le2_1))]) [0, 1, 2, 3, 4, 5, 6, 7, 8] (by decide) rfl
              exact W.iret (v := rows) hx hb hr (fun t9 ht9 hW9 => ⟨⟨rows, (0, le2_1, jo2_1), rfl, Or.inl ⟨x, x, hx0, hx0, rfl, rfl, rfl, nn, g3, ro_end g1.2 hx0 hI9 (by rw [if_neg d0, if_neg d1, if_neg d2, if_pos d3])⟩, by rw [ht9]; exact hP9, va_K.moved hW9.alike hK, hD9⟩, hS.F ht9⟩) hS.2.2 dX4_row_169
          · refine lv_iload hx hb dX4_row_153 (lv_at hl 4 rfl) ?_
            refine lv_goto (tgt := 169) hx hb dX4_row_155 (by decide) ?_
            have hP9 := hP.sub (ws' := [(mA 0, .inr (4, [.int 0, .ref (mA 1), .ref (mA 2), .ref (mA 3), .int (nI (mx_n T)), .int (nI (mx_m F)), .ref (mA 4), .ref (mA 5), .ref (mA 6), .ref (mA 7), .ref (mA 8), .ref (mA 9), .int jo2_1, .ref (mA 10), .ref (mA 11)])), (mA 1, .inl (cZ, 16, .inl isb)), (mA 3, .inl (cI, 16, .inl pls)), (mA 4, .inl (cI, 60, .inl msg)), (mA 5, .inl (cI, 180, .inl at_)), (mA 6, .inl (cI, 40, .inl on)), (mA 7, .inl (cI, 40, .inl tw)), (mA 8, .inl (cZ, 40, .inl sa)), (mA 9, .inl (cI, 60, .inl le2_1))]) [0, 1, 2, 3, 4, 5, 6, 7, 8] rfl
            have hD9 := hD.sub (ws' := [(mA 0, .inr (4, [.int 0, .ref (mA 1), .ref (mA 2), .ref (mA 3), .int (nI (mx_n T)), .int (nI (mx_m F)), .ref (mA 4), .ref (mA 5), .ref (mA 6), .ref (mA 7), .ref (mA 8), .ref (mA 9), .int jo2_1, .ref (mA 10), .ref (mA 11)])), (mA 1, .inl (cZ, 16, .inl isb)), (mA 3, .inl (cI, 16, .inl pls)), (mA 4, .inl (cI, 60, .inl msg)), (mA 5, .inl (cI, 180, .inl at_)), (mA 6, .inl (cI, 40, .inl on)), (mA 7, .inl (cI, 40, .inl tw)), (mA 8, .inl (cZ, 40, .inl sa)), (mA 9, .inl (cI, 60, .inl le2_1))]) [0, 1, 2, 3, 4, 5, 6, 7, 8] (by decide) rfl
            exact W.iret (v := built) hx hb hr (fun t9 ht9 hW9 => ⟨⟨built, (0, le2_1, jo2_1), rfl, Or.inl ⟨x, x, hx0, hx0, rfl, rfl, rfl, nn, g3, ro_end g1.2 hx0 hI9 (by rw [if_neg d0, if_neg d1, if_pos d2])⟩, by rw [ht9]; exact hP9, va_K.moved hW9.alike hK, hD9⟩, hS.F ht9⟩) hS.2.2 dX4_row_169
        · refine lv_iload_n hx hb dX4_row_144 rfl (lv_at hl 3 rfl) ?_
          refine lv_goto (tgt := 169) hx hb dX4_row_145 (by decide) ?_
          have hP9 := hP.sub (ws' := [(mA 0, .inr (4, [.int 0, .ref (mA 1), .ref (mA 2), .ref (mA 3), .int (nI (mx_n T)), .int (nI (mx_m F)), .ref (mA 4), .ref (mA 5), .ref (mA 6), .ref (mA 7), .ref (mA 8), .ref (mA 9), .int jo2_1, .ref (mA 10), .ref (mA 11)])), (mA 1, .inl (cZ, 16, .inl isb)), (mA 3, .inl (cI, 16, .inl pls)), (mA 4, .inl (cI, 60, .inl msg)), (mA 5, .inl (cI, 180, .inl at_)), (mA 6, .inl (cI, 40, .inl on)), (mA 7, .inl (cI, 40, .inl tw)), (mA 8, .inl (cZ, 40, .inl sa)), (mA 9, .inl (cI, 60, .inl le2_1))]) [0, 1, 2, 3, 4, 5, 6, 7, 8] rfl
          have hD9 := hD.sub (ws' := [(mA 0, .inr (4, [.int 0, .ref (mA 1), .ref (mA 2), .ref (mA 3), .int (nI (mx_n T)), .int (nI (mx_m F)), .ref (mA 4), .ref (mA 5), .ref (mA 6), .ref (mA 7), .ref (mA 8), .ref (mA 9), .int jo2_1, .ref (mA 10), .ref (mA 11)])), (mA 1, .inl (cZ, 16, .inl isb)), (mA 3, .inl (cI, 16, .inl pls)), (mA 4, .inl (cI, 60, .inl msg)), (mA 5, .inl (cI, 180, .inl at_)), (mA 6, .inl (cI, 40, .inl on)), (mA 7, .inl (cI, 40, .inl tw)), (mA 8, .inl (cZ, 40, .inl sa)), (mA 9, .inl (cI, 60, .inl le2_1))]) [0, 1, 2, 3, 4, 5, 6, 7, 8] (by decide) rfl
          exact W.iret (v := many) hx hb hr (fun t9 ht9 hW9 => ⟨⟨many, (0, le2_1, jo2_1), rfl, Or.inl ⟨x, x, hx0, hx0, rfl, rfl, rfl, nn, g3, ro_end g1.2 hx0 hI9 (by rw [if_neg d0, if_pos d1])⟩, by rw [ht9]; exact hP9, va_K.moved hW9.alike hK, hD9⟩, hS.F ht9⟩) hS.2.2 dX4_row_169
      · refine lv_aload_n hx hb dX4_row_130 rfl (lv_at hl 0 rfl) ?_
        refine va_get (D := (dC, dI)) (ci := 4) (v := .ref (mA 9)) (C := RX4) (T := TX4) (N := 15) hx hb hts (fun w h => woX4_row w (inX4 w h)) hown hK hP 0 rfl rfl 11 (by decide) (hts _ (woX4_row _ wd_504)) (fun _ h9 => h9) rfl dX4_row_131 ?_
        refine lv_iload_n hx hb dX4_row_134 rfl (lv_at hl 1 rfl) ?_
        refine va_iald hx hb hK hP 8 0 rfl rfl (vp_in_nI (by omega) (by omega)) dX4_row_135 ?_
        rw [show (nI x).toNatClampNeg = x from nI_clamp (by omega)]
        rw [g1.1 x hx0]
        refine lv_goto (tgt := 169) hx hb dX4_row_136 (by decide) ?_
        have hP9 := hP.sub (ws' := [(mA 0, .inr (4, [.int 0, .ref (mA 1), .ref (mA 2), .ref (mA 3), .int (nI (mx_n T)), .int (nI (mx_m F)), .ref (mA 4), .ref (mA 5), .ref (mA 6), .ref (mA 7), .ref (mA 8), .ref (mA 9), .int jo2_1, .ref (mA 10), .ref (mA 11)])), (mA 1, .inl (cZ, 16, .inl isb)), (mA 3, .inl (cI, 16, .inl pls)), (mA 4, .inl (cI, 60, .inl msg)), (mA 5, .inl (cI, 180, .inl at_)), (mA 6, .inl (cI, 40, .inl on)), (mA 7, .inl (cI, 40, .inl tw)), (mA 8, .inl (cZ, 40, .inl sa)), (mA 9, .inl (cI, 60, .inl le2_1))]) [0, 1, 2, 3, 4, 5, 6, 7, 8] rfl
        have hD9 := hD.sub (ws' := [(mA 0, .inr (4, [.int 0, .ref (mA 1), .ref (mA 2), .ref (mA 3), .int (nI (mx_n T)), .int (nI (mx_m F)), .ref (mA 4), .ref (mA 5), .ref (mA 6), .ref (mA 7), .ref (mA 8), .ref (mA 9), .int jo2_1, .ref (mA 10), .ref (mA 11)])), (mA 1, .inl (cZ, 16, .inl isb)), (mA 3, .inl (cI, 16, .inl pls)), (mA 4, .inl (cI, 60, .inl msg)), (mA 5, .inl (cI, 180, .inl at_)), (mA 6, .inl (cI, 40, .inl on)), (mA 7, .inl (cI, 40, .inl tw)), (mA 8, .inl (cZ, 40, .inl sa)), (mA 9, .inl (cI, 60, .inl le2_1))]) [0, 1, 2, 3, 4, 5, 6, 7, 8] (by decide) rfl
        exact W.iret (v := nI (nn x)) hx hb hr (fun t9 ht9 hW9 => ⟨⟨nI (nn x), (0, le2_1, jo2_1), rfl, Or.inl ⟨x, x, hx0, hx0, rfl, rfl, rfl, nn, g3, ro_end g1.2 hx0 hI9 (by rw [if_pos d0])⟩, by rw [ht9]; exact hP9, va_K.moved hW9.alike hK, hD9⟩, hS.F ht9⟩) hS.2.2 dX4_row_169
    · exact absurd (by decide) c9

set_option maxHeartbeats 4000000 in
set_option maxRecDepth 100000 in
theorem rs_l {p : Program} {l : Launch} {e : Env} {s : State} {m : MethodId} {args : Array Value} {below : List Frame} {meth : Method} {c : Code} {Q : State → Prop} (hx : p.tables.exec = Jvm.exec) (hb : c.code = cX4_reason) (hown : s.vm.findClass RX4 = some m.cls) (hts : ∀ w ∈ wsX4_reason, w.before args s = true) {dC : Nat → ClassId} {dI : Nat → Nat → Nat} {cI cJ cZ : ClassId} (hK : va_K (dC, dI) vwCl [(cI, .int), (cJ, .long), (cZ, .boolean)] s) {T : mx_T} {F : mx_F} {mA : Nat → Nat} {isb : Nat → Int32} {pls : Nat → Int32} {msg : Nat → Int32} {at_ : Nat → Int32} {on : Nat → Int32} {tw : Nat → Int32} {sa : Nat → Int32} {x : Nat} {y : Nat} (hw : mx_wf T) (hpf : mx_pf T) (hn : mx_n T ≤ 60) (hmt : md_T T isb pls msg at_) (hmf : mx_m F ≤ 40 ∧ ∀ f, f < mx_m F → on f = nI (mx_lf F f) ∧ tw f = nI (mx_rt F f) ∧ mx_lf F f < mx_n T ∧ mx_rt F f < mx_n T ∧ sa f = (if mx_sm F f = true then 1 else 0)) (hx0 : x < mx_n T) (hy0 : y < mx_n T) {A : Nat → Prop} {H0 : Heap} (hA : ∀ q : Nat, H0.size ≤ q → A q) (hml : c.maxLocals = 6) (kk : ∀ (kept : Int64) (le : Nat → Int32) (jo : Int32) (H : Heap) (locs : List Loc) (ls : Array Slot), (jb kept = mx_kp (rq_R T F (some (x, y))) (mx_m F) (mx_m F)) → va_P (dC, dI) vwCl [(mA 0, .inr (4, [.int 0, .ref (mA 1), .ref (mA 2), .ref (mA 3), .int (nI (mx_n T)), .int (nI (mx_m F)), .ref (mA 4), .ref (mA 5), .ref (mA 6), .ref (mA 7), .ref (mA 8), .ref (mA 9), .int jo, .ref (mA 10), .ref (mA 11)])), (mA 1, .inl (cZ, 16, .inl isb)), (mA 3, .inl (cI, 16, .inl pls)), (mA 4, .inl (cI, 60, .inl msg)), (mA 5, .inl (cI, 180, .inl at_)), (mA 6, .inl (cI, 40, .inl on)), (mA 7, .inl (cI, 40, .inl tw)), (mA 8, .inl (cZ, 40, .inl sa)), (mA 9, .inl (cI, 60, .inl le))] H → va_D A [(mA 0, .inr (4, [.int 0, .ref (mA 1), .ref (mA 2), .ref (mA 3), .int (nI (mx_n T)), .int (nI (mx_m F)), .ref (mA 4), .ref (mA 5), .ref (mA 6), .ref (mA 7), .ref (mA 8), .ref (mA 9), .int jo, .ref (mA 10), .ref (mA 11)])), (mA 1, .inl (cZ, 16, .inl isb)), (mA 3, .inl (cI, 16, .inl pls)), (mA 4, .inl (cI, 60, .inl msg)), (mA 5, .inl (cI, 180, .inl at_)), (mA 6, .inl (cI, 40, .inl on)), (mA 7, .inl (cI, 40, .inl tw)), (mA 8, .inl (cZ, 40, .inl sa)), (mA 9, .inl (cI, 60, .inl le))] → va_S A H0 H locs → lv_has ls 6 [(3, .long kept)] → W p l e ({ frames := 3, cells := 0, slots := 0, locals := 75 }) s m args below meth c H locs 0 0 Q (F0 m 90 ls [])) : ∀ (d : Nat) (j : Nat) (kv : Int32) (kept : Int64) (le : Nat → Int32) (jo : Int32) (H : Heap) (locs : List Loc) (ls : Array Slot), (j = d) → (j ≤ mx_m F) → (kv = nI j - 1) → (jb kept = rk_K (rq_R T F (some (x, y))) (mx_m F) j) → va_P (dC, dI) vwCl [(mA 0, .inr (4, [.int 0, .ref (mA 1), .ref (mA 2), .ref (mA 3), .int (nI (mx_n T)), .int (nI (mx_m F)), .ref (mA 4), .ref (mA 5), .ref (mA 6), .ref (mA 7), .ref (mA 8), .ref (mA 9), .int jo, .ref (mA 10), .ref (mA 11)])), (mA 1, .inl (cZ, 16, .inl isb)), (mA 3, .inl (cI, 16, .inl pls)), (mA 4, .inl (cI, 60, .inl msg)), (mA 5, .inl (cI, 180, .inl at_)), (mA 6, .inl (cI, 40, .inl on)), (mA 7, .inl (cI, 40, .inl tw)), (mA 8, .inl (cZ, 40, .inl sa)), (mA 9, .inl (cI, 60, .inl le))] H → va_D A [(mA 0, .inr (4, [.int 0, .ref (mA 1), .ref (mA 2), .ref (mA 3), .int (nI (mx_n T)), .int (nI (mx_m F)), .ref (mA 4), .ref (mA 5), .ref (mA 6), .ref (mA 7), .ref (mA 8), .ref (mA 9), .int jo, .ref (mA 10), .ref (mA 11)])), (mA 1, .inl (cZ, 16, .inl isb)), (mA 3, .inl (cI, 16, .inl pls)), (mA 4, .inl (cI, 60, .inl msg)), (mA 5, .inl (cI, 180, .inl at_)), (mA 6, .inl (cI, 40, .inl on)), (mA 7, .inl (cI, 40, .inl tw)), (mA 8, .inl (cZ, 40, .inl sa)), (mA 9, .inl (cI, 60, .inl le))] → va_S A H0 H locs → lv_has ls 6 [(0, .ref (mA 0)), (1, .int (nI x)), (2, .int (nI y)), (3, .long kept), (5, .int kv)] → W p l e ({ frames := 3, cells := 0, slots := 0, locals := 75 }) s m args below meth c H locs 0 0 Q (F0 m 37 ls []) := by
  intro d
  induction d with
  | zero =>
    intro j kv kept le jo H locs ls hd hj hk hI hP hD hS hl
    subst hd
    subst hk
    refine lv_iload hx hb dX4_reason_37 (lv_at hl 4 rfl) ?_
    refine lv_if_lt (tgt := 90) hx hb dX4_reason_39 (by decide) (fun c1 => ?_) (fun c1 => ?_)
    · rw [rk_Ke] at hI
      refine kk kept le jo _ _ _ hI hP hD hS (lv_sub hl [3] rfl)
    · exact absurd (by decide) c1
  | succ d ih =>
    intro j kv kept le jo H locs ls hd hj hk hI hP hD hS hl
    subst hd
    have hj0 : d < mx_m F := by omega
    have hm := hmf.1
    have hfw := mf_fw hmf
    have hk : kv = nI d := by rw [hk]; exact nI_pred d
    subst hk
    refine lv_iload hx hb dX4_reason_37 (lv_at hl 4 rfl) ?_
    refine lv_if_lt (tgt := 90) hx hb dX4_reason_39 (by decide) (fun c1 => ?_) (fun c1 => ?_)
    · exact absurd c1 (nI_pos (by omega))
    · have hmi := rk_minus hj0 hm hI
      refine lv_aload_n hx hb dX4_reason_42 rfl (lv_at hl 0 rfl) ?_
      refine lv_lload_n hx hb dX4_reason_43 rfl (lv_at hl 3 rfl) ?_
      refine lv_lconst (v := 1) hx hb dX4_reason_44 (by decide) ?_
      refine lv_iload hx hb dX4_reason_45 (lv_at hl 4 rfl) ?_
      refine lv_lshl (v := (1 : Int64) <<< ((nI d).toInt64 &&& 63)) hx hb dX4_reason_47 rfl ?_
      refine lv_ldc2 (v := (-1)) hx hb hown (hts _ (woX4_reason _ wd_620)) dX4_reason_48 ?_
      refine lv_lxor hx hb dX4_reason_51 ?_
      refine lv_land hx hb dX4_reason_52 ?_
      refine lv_topl (fun fw_1 efw_1 => ?_)
      have hfw2 : jb fw_1 = fun g => mx_kp (rq_R T F (some (x, y))) (mx_m F) (mx_m F - (d + 1)) g || decide (g < d) := by rw [efw_1]; exact hmi
      refine lv_iload_n hx hb dX4_reason_53 rfl (lv_at hl 1 rfl) ?_
      refine lv_iload_n hx hb dX4_reason_54 rfl (lv_at hl 1 rfl) ?_
      have hPc := hP.sub (ws' := [(mA 0, .inr (4, [.int 0, .ref (mA 1), .ref (mA 2), .ref (mA 3), .int (nI (mx_n T)), .int (nI (mx_m F)), .ref (mA 4), .ref (mA 5), .ref (mA 6), .ref (mA 7), .ref (mA 8), .ref (mA 9), .int jo, .ref (mA 10), .ref (mA 11)])), (mA 1, .inl (cZ, 16, .inl isb)), (mA 3, .inl (cI, 16, .inl pls)), (mA 4, .inl (cI, 60, .inl msg)), (mA 5, .inl (cI, 180, .inl at_)), (mA 6, .inl (cI, 40, .inl on)), (mA 7, .inl (cI, 40, .inl tw)), (mA 8, .inl (cZ, 40, .inl sa)), (mA 9, .inl (cI, 60, .inl le))]) [0, 1, 2, 3, 4, 5, 6, 7, 8] rfl
      have hDc := hD.sub (ws' := [(mA 0, .inr (4, [.int 0, .ref (mA 1), .ref (mA 2), .ref (mA 3), .int (nI (mx_n T)), .int (nI (mx_m F)), .ref (mA 4), .ref (mA 5), .ref (mA 6), .ref (mA 7), .ref (mA 8), .ref (mA 9), .int jo, .ref (mA 10), .ref (mA 11)])), (mA 1, .inl (cZ, 16, .inl isb)), (mA 3, .inl (cI, 16, .inl pls)), (mA 4, .inl (cI, 60, .inl msg)), (mA 5, .inl (cI, 180, .inl at_)), (mA 6, .inl (cI, 40, .inl on)), (mA 7, .inl (cI, 40, .inl tw)), (mA 8, .inl (cZ, 40, .inl sa)), (mA 9, .inl (cI, 60, .inl le))]) [0, 1, 2, 3, 4, 5, 6, 7, 8] (by decide) rfl
      have hFc := va_free (wc := [(mA 0, .inr (4, [.int 0, .ref (mA 1), .ref (mA 2), .ref (mA 3), .int (nI (mx_n T)), .int (nI (mx_m F)), .ref (mA 4), .ref (mA 5), .ref (mA 6), .ref (mA 7), .ref (mA 8), .ref (mA 9), .int jo, .ref (mA 10), .ref (mA 11)])), (mA 1, .inl (cZ, 16, .inl isb)), (mA 3, .inl (cI, 16, .inl pls)), (mA 4, .inl (cI, 60, .inl msg)), (mA 5, .inl (cI, 180, .inl at_)), (mA 6, .inl (cI, 40, .inl on)), (mA 7, .inl (cI, 40, .inl tw)), (mA 8, .inl (cZ, 40, .inl sa)), (mA 9, .inl (cI, 60, .inl le))]) hD hS hA [0, 1, 2, 3, 4, 5, 6, 7, 8] rfl
      refine va_callv (va_runV (As := [.long fw_1, .int (nI x), .int (nI x)]) (rest := []) ⟨hx, hb, hml, hown, hts⟩ (m_joinAll l dC dI cI cJ cZ T F mA 0 jo isb pls msg at_ on tw sa le fw_1 x x H.size hw hpf hn hmt hmf (fun _ => ⟨hx0, hx0⟩)) (cwV 3 hts (w0_goodV woX4_reason wd_586 wd_583 wd_585 ws_16 wd_5) rfl rfl rfl (by decide +kernel) ⟨Nat.le_of_ble_eq_true rfl, Nat.le_of_ble_eq_true rfl⟩) ⟨fun a U g mk q => by obtain ⟨q0, q1, qP, qK, qD⟩ := q; exact ⟨q0, q1, qP, va_K.moved (u := U) (U := U.calling g mk a) (Vm.Alike.refl U.vm) qK, qD⟩, va_recv hK hP (ci := 4) (q0 := 0) rfl rfl, fun U hU hW => ⟨rfl, by rw [hU], by rw [hU]; exact hPc, va_K.moved hW.alike hK, hDc.weaken (fun _ _ _ _ => trivial)⟩⟩ rfl rfl hl.1 rfl (lv_room (Nat.le_of_ble_eq_true rfl)) dX4_reason_55 ⟨Nat.zero_le _, Nat.zero_le _⟩) hS (fun q _ h => hFc q h) hFc (fun u t8 H1 locs ht8 hvm hj3 hB hz1 hk1 hS => ?_)
      obtain ⟨le2_2, jo2_2⟩ := u
      obtain ⟨hP1, hK1, hD1⟩ := hB
      rw [ht8] at hP1
      try dsimp only at hj3
      obtain ⟨hP, hD⟩ := va_join (wr := []) (w1 := [(mA 0, .inr (4, [.int 0, .ref (mA 1), .ref (mA 2), .ref (mA 3), .int (nI (mx_n T)), .int (nI (mx_m F)), .ref (mA 4), .ref (mA 5), .ref (mA 6), .ref (mA 7), .ref (mA 8), .ref (mA 9), .int jo2_2, .ref (mA 10), .ref (mA 11)])), (mA 1, .inl (cZ, 16, .inl isb)), (mA 3, .inl (cI, 16, .inl pls)), (mA 4, .inl (cI, 60, .inl msg)), (mA 5, .inl (cI, 180, .inl at_)), (mA 6, .inl (cI, 40, .inl on)), (mA 7, .inl (cI, 40, .inl tw)), (mA 8, .inl (cZ, 40, .inl sa)), (mA 9, .inl (cI, 60, .inl le2_2))]) hP hD [0, 1, 2, 3, 4, 5, 6, 7, 8] [] rfl rfl (by decide) (by decide) hk1 hFc hP1 hD1
      have hP := hP.sub (ws' := [(mA 0, .inr (4, [.int 0, .ref (mA 1), .ref (mA 2), .ref (mA 3), .int (nI (mx_n T)), .int (nI (mx_m F)), .ref (mA 4), .ref (mA 5), .ref (mA 6), .ref (mA 7), .ref (mA 8), .ref (mA 9), .int jo2_2, .ref (mA 10), .ref (mA 11)])), (mA 1, .inl (cZ, 16, .inl isb)), (mA 3, .inl (cI, 16, .inl pls)), (mA 4, .inl (cI, 60, .inl msg)), (mA 5, .inl (cI, 180, .inl at_)), (mA 6, .inl (cI, 40, .inl on)), (mA 7, .inl (cI, 40, .inl tw)), (mA 8, .inl (cZ, 40, .inl sa)), (mA 9, .inl (cI, 60, .inl le2_2))]) [0, 1, 2, 3, 4, 5, 6, 7, 8] rfl
      have hD := hD.sub (ws' := [(mA 0, .inr (4, [.int 0, .ref (mA 1), .ref (mA 2), .ref (mA 3), .int (nI (mx_n T)), .int (nI (mx_m F)), .ref (mA 4), .ref (mA 5), .ref (mA 6), .ref (mA 7), .ref (mA 8), .ref (mA 9), .int jo2_2, .ref (mA 10), .ref (mA 11)])), (mA 1, .inl (cZ, 16, .inl isb)), (mA 3, .inl (cI, 16, .inl pls)), (mA 4, .inl (cI, 60, .inl msg)), (mA 5, .inl (cI, 180, .inl at_)), (mA 6, .inl (cI, 40, .inl on)), (mA 7, .inl (cI, 40, .inl tw)), (mA 8, .inl (cZ, 40, .inl sa)), (mA 9, .inl (cI, 60, .inl le2_2))]) [0, 1, 2, 3, 4, 5, 6, 7, 8] (by decide) rfl
      generalize H1 = H at hP hS ⊢
      obtain ⟨nn, g1, g2⟩ := hj3
      have g1 : md_L T nn le2_2 := g1
      have g3 := ja_same (fun _ => hx0) g2
      rw [hfw2] at g3
      have n1 := g1.2 x hx0
      have n2 := g1.2 y hy0
      have g4 := rq_iff hw hfw (q := some (x, y)) (fun a b e => by cases e; exact ⟨hx0, hy0⟩) g3
      refine lv_aload_n hx hb dX4_reason_58 rfl (lv_at hl 0 rfl) ?_
      refine va_get (D := (dC, dI)) (ci := 4) (v := .ref (mA 9)) (C := RX4) (T := TX4) (N := 15) hx hb hts (fun w h => woX4_reason w (inX4 w h)) hown hK hP 0 rfl rfl 11 (by decide) (hts _ (woX4_reason _ wd_504)) (fun _ h9 => h9) rfl dX4_reason_59 ?_
      refine lv_iload_n hx hb dX4_reason_62 rfl (lv_at hl 1 rfl) ?_
      refine va_iald hx hb hK hP 8 0 rfl rfl (vp_in_nI (by omega) (by omega)) dX4_reason_63 ?_
      rw [show (nI x).toNatClampNeg = x from nI_clamp (by omega)]
      rw [g1.1 x hx0]
      refine lv_aload_n hx hb dX4_reason_64 rfl (lv_at hl 0 rfl) ?_
      refine va_get (D := (dC, dI)) (ci := 4) (v := .ref (mA 9)) (C := RX4) (T := TX4) (N := 15) hx hb hts (fun w h => woX4_reason w (inX4 w h)) hown hK hP 0 rfl rfl 11 (by decide) (hts _ (woX4_reason _ wd_504)) (fun _ h9 => h9) rfl dX4_reason_65 ?_
      refine lv_iload_n hx hb dX4_reason_68 rfl (lv_at hl 2 rfl) ?_
      refine va_iald hx hb hK hP 8 0 rfl rfl (vp_in_nI (by omega) (by omega)) dX4_reason_69 ?_
      rw [show (nI y).toNatClampNeg = y from nI_clamp (by omega)]
      rw [g1.1 y hy0]
      refine lv_icmp_ne (tgt := 84) hx hb dX4_reason_70 (by decide) (fun c2 => ?_) (fun c2 => ?_)
      · obtain ⟨y_3, ey_3⟩ : ∃ y9 : Int32, y9 = (nI d) + (-1) := ⟨_, rfl⟩
        refine lv_iinc (v := y_3) (lv' := [(5, .int y_3), (0, .ref (mA 0)), (1, .int (nI x)), (2, .int (nI y)), (3, .long kept)]) hx hb dX4_reason_84 hl (k := 4) rfl (by rw [ey_3]; rfl) (by decide) rfl (fun ls hl => ?_)
        refine lv_goto (tgt := 37) hx hb dX4_reason_87 (by decide) ?_
        rw [pm1] at ey_3
        refine ih d y_3 kept le2_2 jo2_2 _ _ _ rfl (by omega) ey_3 (hI.trans (rk_in hj0 (fun q => c2 (by rw [show nn x = nn y from g4.mpr q])))) hP hD hS (lv_sub hl [1, 2, 3, 4, 0] rfl)
      · refine lv_lload_n hx hb dX4_reason_73 rfl (lv_at hl 3 rfl) ?_
        refine lv_lconst (v := 1) hx hb dX4_reason_74 (by decide) ?_
        refine lv_iload hx hb dX4_reason_75 (lv_at hl 4 rfl) ?_
        refine lv_lshl (v := (1 : Int64) <<< ((nI d).toInt64 &&& 63)) hx hb dX4_reason_77 rfl ?_
        refine lv_ldc2 (v := (-1)) hx hb hown (hts _ (woX4_reason _ wd_620)) dX4_reason_78 ?_
        refine lv_lxor hx hb dX4_reason_81 ?_
        refine lv_land hx hb dX4_reason_82 ?_
        refine lv_topl (fun kq_4 ekq_4 => ?_)
        refine lv_lstore_n (lv' := [(3, .long kq_4), (0, .ref (mA 0)), (1, .int (nI x)), (2, .int (nI y)), (5, .int (nI d))]) hx hb dX4_reason_83 rfl hl (by decide) rfl (fun ls hl => ?_)
        obtain ⟨y_5, ey_5⟩ : ∃ y9 : Int32, y9 = (nI d) + (-1) := ⟨_, rfl⟩
        refine lv_iinc (v := y_5) (lv' := [(5, .int y_5), (3, .long kq_4), (0, .ref (mA 0)), (1, .int (nI x)), (2, .int (nI y))]) hx hb dX4_reason_84 hl (k := 4) rfl (by rw [ey_5]; rfl) (by decide) rfl (fun ls hl => ?_)
        refine lv_goto (tgt := 37) hx hb dX4_reason_87 (by decide) ?_
        rw [pm1] at ey_5
        refine ih d y_5 kq_4 le2_2 jo2_2 _ _ _ rfl (by omega) ey_5 (by rw [ekq_4, hmi]; exact rk_out hj0 (g4.mp ((nI_eq (by omega) (by omega)).mp c2))) hP hD hS (lv_sub hl [2, 3, 4, 1, 0] rfl)

set_option maxHeartbeats 4000000 in
set_option maxRecDepth 100000 in
/-- the reference: reason -/
theorem m_reason (l : Launch) (dC : Nat → ClassId) (dI : Nat → Nat → Nat) (cI cJ cZ : ClassId) (T : mx_T) (F : mx_F) (mA : Nat → Nat) (th : Int32) (jo : Int32) (isb : Nat → Int32) (pls : Nat → Int32) (msg : Nat → Int32) (at_ : Nat → Int32) (on : Nat → Int32) (tw : Nat → Int32) (sa : Nat → Int32) (le : Nat → Int32) (a : Int32) (b : Int32) (sz : Nat) (hw : mx_wf T) (hpf : mx_pf T) (hn : mx_n T ≤ 60) (hmt : md_T T isb pls msg at_) (hmf : mx_m F ≤ 40 ∧ ∀ f, f < mx_m F → on f = nI (mx_lf F f) ∧ tw f = nI (mx_rt F f) ∧ mx_lf F f < mx_n T ∧ mx_rt F f < mx_n T ∧ sa f = (if mx_sm F f = true then 1 else 0)) : Met l yX4_reason wsX4_reason ({ frames := 3, cells := 0, slots := 0, locals := 75 }) (va_Pc [.ref (mA 0), .int a, .int b] (fun U => U.heap.size = sz ∧ va_P (dC, dI) vwCl [(mA 0, .inr (4, [.int th, .ref (mA 1), .ref (mA 2), .ref (mA 3), .int (nI (mx_n T)), .int (nI (mx_m F)), .ref (mA 4), .ref (mA 5), .ref (mA 6), .ref (mA 7), .ref (mA 8), .ref (mA 9), .int jo, .ref (mA 10), .ref (mA 11)])), (mA 1, .inl (cZ, 16, .inl isb)), (mA 3, .inl (cI, 16, .inl pls)), (mA 4, .inl (cI, 60, .inl msg)), (mA 5, .inl (cI, 180, .inl at_)), (mA 6, .inl (cI, 40, .inl on)), (mA 7, .inl (cI, 40, .inl tw)), (mA 8, .inl (cZ, 40, .inl sa)), (mA 9, .inl (cI, 60, .inl le))] U.heap ∧ va_K (dC, dI) vwCl [(cI, .int), (cJ, .long), (cZ, .boolean)] U ∧ va_D (fun _ => True) [(mA 0, .inr (4, [.int th, .ref (mA 1), .ref (mA 2), .ref (mA 3), .int (nI (mx_n T)), .int (nI (mx_m F)), .ref (mA 4), .ref (mA 5), .ref (mA 6), .ref (mA 7), .ref (mA 8), .ref (mA 9), .int jo, .ref (mA 10), .ref (mA 11)])), (mA 1, .inl (cZ, 16, .inl isb)), (mA 3, .inl (cI, 16, .inl pls)), (mA 4, .inl (cI, 60, .inl msg)), (mA 5, .inl (cI, 180, .inl at_)), (mA 6, .inl (cI, 40, .inl on)), (mA 7, .inl (cI, 40, .inl tw)), (mA 8, .inl (cZ, 40, .inl sa)), (mA 9, .inl (cI, 60, .inl le))])) (va_Ql (fun r u => an_2 T a b u.1 (fun x y => re_P (rq_R T F (some (x, y))) (mx_m F) r)) (fun (u : Int32 × (Nat → Int32) × Int32) t7 => match u with | (th2, le2, jo2) => va_P (dC, dI) vwCl [(mA 0, .inr (4, [.int th2, .ref (mA 1), .ref (mA 2), .ref (mA 3), .int (nI (mx_n T)), .int (nI (mx_m F)), .ref (mA 4), .ref (mA 5), .ref (mA 6), .ref (mA 7), .ref (mA 8), .ref (mA 9), .int jo2, .ref (mA 10), .ref (mA 11)])), (mA 1, .inl (cZ, 16, .inl isb)), (mA 3, .inl (cI, 16, .inl pls)), (mA 4, .inl (cI, 60, .inl msg)), (mA 5, .inl (cI, 180, .inl at_)), (mA 6, .inl (cI, 40, .inl on)), (mA 7, .inl (cI, 40, .inl tw)), (mA 8, .inl (cZ, 40, .inl sa)), (mA 9, .inl (cI, 60, .inl le2))] t7.heap ∧ va_K (dC, dI) vwCl [(cI, .int), (cJ, .long), (cZ, .boolean)] t7 ∧ va_D (va_A [(mA 0, .inr (4, [.int th, .ref (mA 1), .ref (mA 2), .ref (mA 3), .int (nI (mx_n T)), .int (nI (mx_m F)), .ref (mA 4), .ref (mA 5), .ref (mA 6), .ref (mA 7), .ref (mA 8), .ref (mA 9), .int jo, .ref (mA 10), .ref (mA 11)])), (mA 1, .inl (cZ, 16, .inl isb)), (mA 3, .inl (cI, 16, .inl pls)), (mA 4, .inl (cI, 60, .inl msg)), (mA 5, .inl (cI, 180, .inl at_)), (mA 6, .inl (cI, 40, .inl on)), (mA 7, .inl (cI, 40, .inl tw)), (mA 8, .inl (cZ, 40, .inl sa)), (mA 9, .inl (cI, 60, .inl le))] sz) [(mA 0, .inr (4, [.int th2, .ref (mA 1), .ref (mA 2), .ref (mA 3), .int (nI (mx_n T)), .int (nI (mx_m F)), .ref (mA 4), .ref (mA 5), .ref (mA 6), .ref (mA 7), .ref (mA 8), .ref (mA 9), .int jo2, .ref (mA 10), .ref (mA 11)])), (mA 1, .inl (cZ, 16, .inl isb)), (mA 3, .inl (cI, 16, .inl pls)), (mA 4, .inl (cI, 60, .inl msg)), (mA 5, .inl (cI, 180, .inl at_)), (mA 6, .inl (cI, 40, .inl on)), (mA 7, .inl (cI, 40, .inl tw)), (mA 8, .inl (cZ, 40, .inl sa)), (mA 9, .inl (cI, 60, .inl le2))]) (va_A [(mA 0, .inr (4, [.int th, .ref (mA 1), .ref (mA 2), .ref (mA 3), .int (nI (mx_n T)), .int (nI (mx_m F)), .ref (mA 4), .ref (mA 5), .ref (mA 6), .ref (mA 7), .ref (mA 8), .ref (mA 9), .int jo, .ref (mA 10), .ref (mA 11)])), (mA 1, .inl (cZ, 16, .inl isb)), (mA 3, .inl (cI, 16, .inl pls)), (mA 4, .inl (cI, 60, .inl msg)), (mA 5, .inl (cI, 180, .inl at_)), (mA 6, .inl (cI, 40, .inl on)), (mA 7, .inl (cI, 40, .inl tw)), (mA 8, .inl (cZ, 40, .inl sa)), (mA 9, .inl (cI, 60, .inl le))] sz)) 0 0 (va_A [(mA 0, .inr (4, [.int th, .ref (mA 1), .ref (mA 2), .ref (mA 3), .int (nI (mx_n T)), .int (nI (mx_m F)), .ref (mA 4), .ref (mA 5), .ref (mA 6), .ref (mA 7), .ref (mA 8), .ref (mA 9), .int jo, .ref (mA 10), .ref (mA 11)])), (mA 1, .inl (cZ, 16, .inl isb)), (mA 3, .inl (cI, 16, .inl pls)), (mA 4, .inl (cI, 60, .inl msg)), (mA 5, .inl (cI, 180, .inl at_)), (mA 6, .inl (cI, 40, .inl on)), (mA 7, .inl (cI, 40, .inl tw)), (mA 8, .inl (cZ, 40, .inl sa)), (mA 9, .inl (cI, 60, .inl le))] sz) := by
  refine Met.ofW (cc := cX4_reason) (maxL := 6) (ret := (some .long)) (by decide) rfl ?_
  intro p e s m args below meth c s₁ B hml hv
  obtain ⟨rfl, hsz, hP, hK, hD0⟩ := hv
  have hx := B.exec
  have hb := B.bytes
  have hr := B.returns
  have hts := atoms_spec (ws := wsX4_reason) B.pre
  have hown : s.vm.findClass RX4 = some m.cls := findClass_of_methodNamed B.named
  have hlocks := B.notSynchronized
  subst hsz
  have hD := hD0.self (sz := s.heap.size)
  generalize hAe : va_A [(mA 0, .inr (4, [.int th, .ref (mA 1), .ref (mA 2), .ref (mA 3), .int (nI (mx_n T)), .int (nI (mx_m F)), .ref (mA 4), .ref (mA 5), .ref (mA 6), .ref (mA 7), .ref (mA 8), .ref (mA 9), .int jo, .ref (mA 10), .ref (mA 11)])), (mA 1, .inl (cZ, 16, .inl isb)), (mA 3, .inl (cI, 16, .inl pls)), (mA 4, .inl (cI, 60, .inl msg)), (mA 5, .inl (cI, 180, .inl at_)), (mA 6, .inl (cI, 40, .inl on)), (mA 7, .inl (cI, 40, .inl tw)), (mA 8, .inl (cZ, 40, .inl sa)), (mA 9, .inl (cI, 60, .inl le))] s.heap.size = A at hD ⊢
  have hA : ∀ q : Nat, s.heap.size ≤ q → A q := fun q h => by rw [← hAe]; exact Or.inr h
  have hS : va_S A s.heap s.heap [] := va_S.rf
  have hP : va_P (dC, dI) vwCl [(mA 0, .inr (4, [.int th, .ref (mA 1), .ref (mA 2), .ref (mA 3), .int (nI (mx_n T)), .int (nI (mx_m F)), .ref (mA 4), .ref (mA 5), .ref (mA 6), .ref (mA 7), .ref (mA 8), .ref (mA 9), .int jo, .ref (mA 10), .ref (mA 11)])), (mA 1, .inl (cZ, 16, .inl isb)), (mA 3, .inl (cI, 16, .inl pls)), (mA 4, .inl (cI, 60, .inl msg)), (mA 5, .inl (cI, 180, .inl at_)), (mA 6, .inl (cI, 40, .inl on)), (mA 7, .inl (cI, 40, .inl tw)), (mA 8, .inl (cZ, 40, .inl sa)), (mA 9, .inl (cI, 60, .inl le))] s.heap := hP
  have hl := lv_entry ([.ref (mA 0), .int a, .int b]) (n := 6) (Nat.le_of_ble_eq_true rfl)
  rw [lg_entry_eq]
  generalize (lg_sl ([.ref (mA 0), .int a, .int b]) ++ List.replicate (6 - (lg_sl ([.ref (mA 0), .int a, .int b])).length) Slot.unset).toArray = ls at hl ⊢
  have hl : lv_has ls 6 [(0, .ref (mA 0)), (1, .int a), (2, .int b)] := hl
  refine lv_aload_n hx hb dX4_reason_0 rfl (lv_at hl 0 rfl) ?_
  refine lv_iload_n hx hb dX4_reason_1 rfl (lv_at hl 1 rfl) ?_
  refine lv_iload_n hx hb dX4_reason_2 rfl (lv_at hl 2 rfl) ?_
  have hPc := hP.sub (ws' := [(mA 0, .inr (4, [.int th, .ref (mA 1), .ref (mA 2), .ref (mA 3), .int (nI (mx_n T)), .int (nI (mx_m F)), .ref (mA 4), .ref (mA 5), .ref (mA 6), .ref (mA 7), .ref (mA 8), .ref (mA 9), .int jo, .ref (mA 10), .ref (mA 11)])), (mA 1, .inl (cZ, 16, .inl isb)), (mA 3, .inl (cI, 16, .inl pls)), (mA 4, .inl (cI, 60, .inl msg)), (mA 5, .inl (cI, 180, .inl at_)), (mA 6, .inl (cI, 40, .inl on)), (mA 7, .inl (cI, 40, .inl tw)), (mA 8, .inl (cZ, 40, .inl sa)), (mA 9, .inl (cI, 60, .inl le))]) [0, 1, 2, 3, 4, 5, 6, 7, 8] rfl
  have hDc := hD.sub (ws' := [(mA 0, .inr (4, [.int th, .ref (mA 1), .ref (mA 2), .ref (mA 3), .int (nI (mx_n T)), .int (nI (mx_m F)), .ref (mA 4), .ref (mA 5), .ref (mA 6), .ref (mA 7), .ref (mA 8), .ref (mA 9), .int jo, .ref (mA 10), .ref (mA 11)])), (mA 1, .inl (cZ, 16, .inl isb)), (mA 3, .inl (cI, 16, .inl pls)), (mA 4, .inl (cI, 60, .inl msg)), (mA 5, .inl (cI, 180, .inl at_)), (mA 6, .inl (cI, 40, .inl on)), (mA 7, .inl (cI, 40, .inl tw)), (mA 8, .inl (cZ, 40, .inl sa)), (mA 9, .inl (cI, 60, .inl le))]) [0, 1, 2, 3, 4, 5, 6, 7, 8] (by decide) rfl
  have hFc := va_free (wc := [(mA 0, .inr (4, [.int th, .ref (mA 1), .ref (mA 2), .ref (mA 3), .int (nI (mx_n T)), .int (nI (mx_m F)), .ref (mA 4), .ref (mA 5), .ref (mA 6), .ref (mA 7), .ref (mA 8), .ref (mA 9), .int jo, .ref (mA 10), .ref (mA 11)])), (mA 1, .inl (cZ, 16, .inl isb)), (mA 3, .inl (cI, 16, .inl pls)), (mA 4, .inl (cI, 60, .inl msg)), (mA 5, .inl (cI, 180, .inl at_)), (mA 6, .inl (cI, 40, .inl on)), (mA 7, .inl (cI, 40, .inl tw)), (mA 8, .inl (cZ, 40, .inl sa)), (mA 9, .inl (cI, 60, .inl le))]) hD hS hA [0, 1, 2, 3, 4, 5, 6, 7, 8] rfl
  refine va_calli (va_runV (As := [.int a, .int b]) (rest := []) ⟨hx, hb, hml, hown, hts⟩ (m_isOne l dC dI cI cJ cZ T F mA th jo isb pls msg at_ on tw sa le a b s.heap.size hw hpf hn hmt hmf) (cwV 2 hts (w0_goodV woX4_reason wd_578 wd_619 wd_576 wd_577 wd_5) rfl rfl rfl (by decide +kernel) ⟨Nat.le_of_ble_eq_true rfl, Nat.le_of_ble_eq_true rfl⟩) ⟨fun a U g mk q => by obtain ⟨q0, q1, qP, qK, qD⟩ := q; exact ⟨q0, q1, qP, va_K.moved (u := U) (U := U.calling g mk a) (Vm.Alike.refl U.vm) qK, qD⟩, va_recv hK hP (ci := 4) (q0 := 0) rfl rfl, fun U hU hW => ⟨rfl, by rw [hU], by rw [hU]; exact hPc, va_K.moved hW.alike hK, hDc.weaken (fun _ _ _ _ => trivial)⟩⟩ rfl rfl hl.1 rfl (lv_room (Nat.le_of_ble_eq_true rfl)) dX4_reason_3 ⟨Nat.zero_le _, Nat.zero_le _⟩) hS (fun q _ h => hFc q h) hFc (fun r1 u t8 H1 locs ht8 hvm hr1 hB hz1 hk1 hS => ?_)
  obtain ⟨th2_1, le2_1, jo2_1⟩ := u
  obtain ⟨hP1, hK1, hD1⟩ := hB
  rw [ht8] at hP1
  try dsimp only at hr1
  obtain ⟨hP, hD⟩ := va_join (wr := []) (w1 := [(mA 0, .inr (4, [.int th2_1, .ref (mA 1), .ref (mA 2), .ref (mA 3), .int (nI (mx_n T)), .int (nI (mx_m F)), .ref (mA 4), .ref (mA 5), .ref (mA 6), .ref (mA 7), .ref (mA 8), .ref (mA 9), .int jo2_1, .ref (mA 10), .ref (mA 11)])), (mA 1, .inl (cZ, 16, .inl isb)), (mA 3, .inl (cI, 16, .inl pls)), (mA 4, .inl (cI, 60, .inl msg)), (mA 5, .inl (cI, 180, .inl at_)), (mA 6, .inl (cI, 40, .inl on)), (mA 7, .inl (cI, 40, .inl tw)), (mA 8, .inl (cZ, 40, .inl sa)), (mA 9, .inl (cI, 60, .inl le2_1))]) hP hD [0, 1, 2, 3, 4, 5, 6, 7, 8] [] rfl rfl (by decide) (by decide) hk1 hFc hP1 hD1
  have hP := hP.sub (ws' := [(mA 0, .inr (4, [.int th2_1, .ref (mA 1), .ref (mA 2), .ref (mA 3), .int (nI (mx_n T)), .int (nI (mx_m F)), .ref (mA 4), .ref (mA 5), .ref (mA 6), .ref (mA 7), .ref (mA 8), .ref (mA 9), .int jo2_1, .ref (mA 10), .ref (mA 11)])), (mA 1, .inl (cZ, 16, .inl isb)), (mA 3, .inl (cI, 16, .inl pls)), (mA 4, .inl (cI, 60, .inl msg)), (mA 5, .inl (cI, 180, .inl at_)), (mA 6, .inl (cI, 40, .inl on)), (mA 7, .inl (cI, 40, .inl tw)), (mA 8, .inl (cZ, 40, .inl sa)), (mA 9, .inl (cI, 60, .inl le2_1))]) [0, 1, 2, 3, 4, 5, 6, 7, 8] rfl
  have hD := hD.sub (ws' := [(mA 0, .inr (4, [.int th2_1, .ref (mA 1), .ref (mA 2), .ref (mA 3), .int (nI (mx_n T)), .int (nI (mx_m F)), .ref (mA 4), .ref (mA 5), .ref (mA 6), .ref (mA 7), .ref (mA 8), .ref (mA 9), .int jo2_1, .ref (mA 10), .ref (mA 11)])), (mA 1, .inl (cZ, 16, .inl isb)), (mA 3, .inl (cI, 16, .inl pls)), (mA 4, .inl (cI, 60, .inl msg)), (mA 5, .inl (cI, 180, .inl at_)), (mA 6, .inl (cI, 40, .inl on)), (mA 7, .inl (cI, 40, .inl tw)), (mA 8, .inl (cZ, 40, .inl sa)), (mA 9, .inl (cI, 60, .inl le2_1))]) [0, 1, 2, 3, 4, 5, 6, 7, 8] (by decide) rfl
  generalize H1 = H at hP hS ⊢
  have hr1 : io_Q T F a b r1 th2_1 := hr1
  refine lv_if_ne (tgt := 24) hx hb dX4_reason_6 (by decide) (fun c1 => ?_) (fun c1 => ?_)
  · obtain ⟨x, y, hx0, hy0, rfl, rfl, hth, hall⟩ := an_i hr1 c1
    subst hth
    have hP : va_P (dC, dI) vwCl [(mA 0, .inr (4, [.int 0, .ref (mA 1), .ref (mA 2), .ref (mA 3), .int (nI (mx_n T)), .int (nI (mx_m F)), .ref (mA 4), .ref (mA 5), .ref (mA 6), .ref (mA 7), .ref (mA 8), .ref (mA 9), .int jo2_1, .ref (mA 10), .ref (mA 11)])), (mA 1, .inl (cZ, 16, .inl isb)), (mA 3, .inl (cI, 16, .inl pls)), (mA 4, .inl (cI, 60, .inl msg)), (mA 5, .inl (cI, 180, .inl at_)), (mA 6, .inl (cI, 40, .inl on)), (mA 7, .inl (cI, 40, .inl tw)), (mA 8, .inl (cZ, 40, .inl sa)), (mA 9, .inl (cI, 60, .inl le2_1))] H := hP
    have hD : va_D A [(mA 0, .inr (4, [.int 0, .ref (mA 1), .ref (mA 2), .ref (mA 3), .int (nI (mx_n T)), .int (nI (mx_m F)), .ref (mA 4), .ref (mA 5), .ref (mA 6), .ref (mA 7), .ref (mA 8), .ref (mA 9), .int jo2_1, .ref (mA 10), .ref (mA 11)])), (mA 1, .inl (cZ, 16, .inl isb)), (mA 3, .inl (cI, 16, .inl pls)), (mA 4, .inl (cI, 60, .inl msg)), (mA 5, .inl (cI, 180, .inl at_)), (mA 6, .inl (cI, 40, .inl on)), (mA 7, .inl (cI, 40, .inl tw)), (mA 8, .inl (cZ, 40, .inl sa)), (mA 9, .inl (cI, 60, .inl le2_1))] := hD
    refine lv_aload_n hx hb dX4_reason_24 rfl (lv_at hl 0 rfl) ?_
    have hPc := hP.sub (ws' := [(mA 0, .inr (4, [.int 0, .ref (mA 1), .ref (mA 2), .ref (mA 3), .int (nI (mx_n T)), .int (nI (mx_m F)), .ref (mA 4), .ref (mA 5), .ref (mA 6), .ref (mA 7), .ref (mA 8), .ref (mA 9), .int jo2_1, .ref (mA 10), .ref (mA 11)]))]) [0] rfl
    refine vp_callSl (W.runV (As := []) (rest := []) ⟨hx, hb, hml, hown, hts⟩ (m_all l dC dI cI cJ cZ T F mA 0 jo2_1 hmf.1) (cwV 0 hts (w0_goodV woX4_reason wd_582 wd_579 wd_581 ws_15 wd_5) rfl rfl rfl (by decide +kernel) ⟨Nat.le_of_ble_eq_true rfl, Nat.le_of_ble_eq_true rfl⟩) ⟨fun a U g mk q => by obtain ⟨q0, qP, qK⟩ := q; exact ⟨q0, qP, va_K.moved (u := U) (U := U.calling g mk a) (Vm.Alike.refl U.vm) qK⟩, va_recv hK hP (ci := 4) (q0 := 0) rfl rfl, fun U hU hW => ⟨rfl, by rw [hU]; exact hPc, va_K.moved hW.alike hK⟩⟩ rfl rfl hl.1 rfl (lv_room (Nat.le_of_ble_eq_true rfl)) dX4_reason_25 ⟨Nat.zero_le _, Nat.zero_le _⟩) (fun al hal => ?_)
    have hal : jb al = al_S F := funext hal
    refine lv_lstore_n (lv' := [(3, .long al), (0, .ref (mA 0)), (1, .int (nI x)), (2, .int (nI y))]) hx hb dX4_reason_28 rfl hl (by decide) rfl (fun ls hl => ?_)
    refine lv_aload_n hx hb dX4_reason_29 rfl (lv_at hl 1 rfl) ?_
    refine va_get (D := (dC, dI)) (ci := 4) (v := .int (nI (mx_m F))) (C := RX4) (T := TX4) (N := 15) hx hb hts (fun w h => woX4_reason w (inX4 w h)) hown hK hP 0 rfl rfl 5 (by decide) (hts _ (woX4_reason _ wd_498)) (fun _ h9 => h9) rfl dX4_reason_30 ?_
    refine lv_iconst (v := 1) hx hb dX4_reason_33 (by decide) ?_
    refine lv_isub hx hb dX4_reason_34 ?_
    refine lv_istore (lv' := [(5, .int ((nI (mx_m F)) - 1)), (3, .long al), (0, .ref (mA 0)), (1, .int (nI x)), (2, .int (nI y))]) hx hb dX4_reason_35 hl (by decide) rfl (fun ls hl => ?_)
    refine rs_l hx hb hown hts hK hw hpf hn hmt hmf hx0 hy0 hA hml (fun kept le9 jo9 H locs ls hI9 hP hD hS hl => ?_) (mx_m F) (mx_m F) (nI (mx_m F) - 1) al le2_1 jo2_1 _ _ _ rfl (Nat.le_refl _) rfl (by rw [hal, rk_K0]; rfl) hP hD hS (lv_sub hl [2, 3, 4, 1, 0] rfl)
    refine lv_lload_n hx hb dX4_reason_90 rfl (lv_at hl 0 rfl) ?_
    have hP9 := hP.sub (ws' := [(mA 0, .inr (4, [.int 0, .ref (mA 1), .ref (mA 2), .ref (mA 3), .int (nI (mx_n T)), .int (nI (mx_m F)), .ref (mA 4), .ref (mA 5), .ref (mA 6), .ref (mA 7), .ref (mA 8), .ref (mA 9), .int jo9, .ref (mA 10), .ref (mA 11)])), (mA 1, .inl (cZ, 16, .inl isb)), (mA 3, .inl (cI, 16, .inl pls)), (mA 4, .inl (cI, 60, .inl msg)), (mA 5, .inl (cI, 180, .inl at_)), (mA 6, .inl (cI, 40, .inl on)), (mA 7, .inl (cI, 40, .inl tw)), (mA 8, .inl (cZ, 40, .inl sa)), (mA 9, .inl (cI, 60, .inl le9))]) [0, 1, 2, 3, 4, 5, 6, 7, 8] rfl
    have hD9 := hD.sub (ws' := [(mA 0, .inr (4, [.int 0, .ref (mA 1), .ref (mA 2), .ref (mA 3), .int (nI (mx_n T)), .int (nI (mx_m F)), .ref (mA 4), .ref (mA 5), .ref (mA 6), .ref (mA 7), .ref (mA 8), .ref (mA 9), .int jo9, .ref (mA 10), .ref (mA 11)])), (mA 1, .inl (cZ, 16, .inl isb)), (mA 3, .inl (cI, 16, .inl pls)), (mA 4, .inl (cI, 60, .inl msg)), (mA 5, .inl (cI, 180, .inl at_)), (mA 6, .inl (cI, 40, .inl on)), (mA 7, .inl (cI, 40, .inl tw)), (mA 8, .inl (cZ, 40, .inl sa)), (mA 9, .inl (cI, 60, .inl le9))]) [0, 1, 2, 3, 4, 5, 6, 7, 8] (by decide) rfl
    exact W.lret (v := kept) hx hb hr (fun t9 ht9 hW9 => ⟨⟨kept, (0, le9, jo9), rfl, Or.inl ⟨x, y, hx0, hy0, rfl, rfl, rfl, Or.inr ⟨hall, hI9⟩⟩, by rw [ht9]; exact hP9, va_K.moved hW9.alike hK, hD9⟩, hS.F ht9⟩) hS.2.2 dX4_reason_91
  · refine lv_aload_n hx hb dX4_reason_9 rfl (lv_at hl 0 rfl) ?_
    refine va_get (D := (dC, dI)) (ci := 4) (v := .int th2_1) (C := RX4) (T := TX4) (N := 15) hx hb hts (fun w h => woX4_reason w (inX4 w h)) hown hK hP 0 rfl rfl 0 (by decide) (hts _ (woX4_reason _ wd_493)) (fun _ h9 => h9) rfl dX4_reason_10 ?_
    rcases hr1.1 with ⟨x, y, hx0, hy0, rfl, rfl, hth, hz⟩ | ⟨hbad, hth⟩
    · subst hth
      have hP : va_P (dC, dI) vwCl [(mA 0, .inr (4, [.int 0, .ref (mA 1), .ref (mA 2), .ref (mA 3), .int (nI (mx_n T)), .int (nI (mx_m F)), .ref (mA 4), .ref (mA 5), .ref (mA 6), .ref (mA 7), .ref (mA 8), .ref (mA 9), .int jo2_1, .ref (mA 10), .ref (mA 11)])), (mA 1, .inl (cZ, 16, .inl isb)), (mA 3, .inl (cI, 16, .inl pls)), (mA 4, .inl (cI, 60, .inl msg)), (mA 5, .inl (cI, 180, .inl at_)), (mA 6, .inl (cI, 40, .inl on)), (mA 7, .inl (cI, 40, .inl tw)), (mA 8, .inl (cZ, 40, .inl sa)), (mA 9, .inl (cI, 60, .inl le2_1))] H := hP
      have hD : va_D A [(mA 0, .inr (4, [.int 0, .ref (mA 1), .ref (mA 2), .ref (mA 3), .int (nI (mx_n T)), .int (nI (mx_m F)), .ref (mA 4), .ref (mA 5), .ref (mA 6), .ref (mA 7), .ref (mA 8), .ref (mA 9), .int jo2_1, .ref (mA 10), .ref (mA 11)])), (mA 1, .inl (cZ, 16, .inl isb)), (mA 3, .inl (cI, 16, .inl pls)), (mA 4, .inl (cI, 60, .inl msg)), (mA 5, .inl (cI, 180, .inl at_)), (mA 6, .inl (cI, 40, .inl on)), (mA 7, .inl (cI, 40, .inl tw)), (mA 8, .inl (cZ, 40, .inl sa)), (mA 9, .inl (cI, 60, .inl le2_1))] := hD
      refine lv_if_le (tgt := 20) hx hb dX4_reason_13 (by decide) (fun c2 => ?_) (fun c2 => ?_)
      · refine lv_ldc2 (v := (-1)) hx hb hown (hts _ (woX4_reason _ wd_620)) dX4_reason_20 ?_
        have hP9 := hP.sub (ws' := [(mA 0, .inr (4, [.int 0, .ref (mA 1), .ref (mA 2), .ref (mA 3), .int (nI (mx_n T)), .int (nI (mx_m F)), .ref (mA 4), .ref (mA 5), .ref (mA 6), .ref (mA 7), .ref (mA 8), .ref (mA 9), .int jo2_1, .ref (mA 10), .ref (mA 11)])), (mA 1, .inl (cZ, 16, .inl isb)), (mA 3, .inl (cI, 16, .inl pls)), (mA 4, .inl (cI, 60, .inl msg)), (mA 5, .inl (cI, 180, .inl at_)), (mA 6, .inl (cI, 40, .inl on)), (mA 7, .inl (cI, 40, .inl tw)), (mA 8, .inl (cZ, 40, .inl sa)), (mA 9, .inl (cI, 60, .inl le2_1))]) [0, 1, 2, 3, 4, 5, 6, 7, 8] rfl
        have hD9 := hD.sub (ws' := [(mA 0, .inr (4, [.int 0, .ref (mA 1), .ref (mA 2), .ref (mA 3), .int (nI (mx_n T)), .int (nI (mx_m F)), .ref (mA 4), .ref (mA 5), .ref (mA 6), .ref (mA 7), .ref (mA 8), .ref (mA 9), .int jo2_1, .ref (mA 10), .ref (mA 11)])), (mA 1, .inl (cZ, 16, .inl isb)), (mA 3, .inl (cI, 16, .inl pls)), (mA 4, .inl (cI, 60, .inl msg)), (mA 5, .inl (cI, 180, .inl at_)), (mA 6, .inl (cI, 40, .inl on)), (mA 7, .inl (cI, 40, .inl tw)), (mA 8, .inl (cZ, 40, .inl sa)), (mA 9, .inl (cI, 60, .inl le2_1))]) [0, 1, 2, 3, 4, 5, 6, 7, 8] (by decide) rfl
        exact W.lret (v := (-1)) hx hb hr (fun t9 ht9 hW9 => ⟨⟨(-1), (0, le2_1, jo2_1), rfl, Or.inl ⟨x, y, hx0, hy0, rfl, rfl, rfl, Or.inl ⟨rfl, zb_f hz c1⟩⟩, by rw [ht9]; exact hP9, va_K.moved hW9.alike hK, hD9⟩, hS.F ht9⟩) hS.2.2 dX4_reason_23
      · exact absurd (by decide) c2
    · subst hth
      have hP : va_P (dC, dI) vwCl [(mA 0, .inr (4, [.int 1, .ref (mA 1), .ref (mA 2), .ref (mA 3), .int (nI (mx_n T)), .int (nI (mx_m F)), .ref (mA 4), .ref (mA 5), .ref (mA 6), .ref (mA 7), .ref (mA 8), .ref (mA 9), .int jo2_1, .ref (mA 10), .ref (mA 11)])), (mA 1, .inl (cZ, 16, .inl isb)), (mA 3, .inl (cI, 16, .inl pls)), (mA 4, .inl (cI, 60, .inl msg)), (mA 5, .inl (cI, 180, .inl at_)), (mA 6, .inl (cI, 40, .inl on)), (mA 7, .inl (cI, 40, .inl tw)), (mA 8, .inl (cZ, 40, .inl sa)), (mA 9, .inl (cI, 60, .inl le2_1))] H := hP
      have hD : va_D A [(mA 0, .inr (4, [.int 1, .ref (mA 1), .ref (mA 2), .ref (mA 3), .int (nI (mx_n T)), .int (nI (mx_m F)), .ref (mA 4), .ref (mA 5), .ref (mA 6), .ref (mA 7), .ref (mA 8), .ref (mA 9), .int jo2_1, .ref (mA 10), .ref (mA 11)])), (mA 1, .inl (cZ, 16, .inl isb)), (mA 3, .inl (cI, 16, .inl pls)), (mA 4, .inl (cI, 60, .inl msg)), (mA 5, .inl (cI, 180, .inl at_)), (mA 6, .inl (cI, 40, .inl on)), (mA 7, .inl (cI, 40, .inl tw)), (mA 8, .inl (cZ, 40, .inl sa)), (mA 9, .inl (cI, 60, .inl le2_1))] := hD
      refine lv_if_le (tgt := 20) hx hb dX4_reason_13 (by decide) (fun c2 => ?_) (fun c2 => ?_)
      · exact absurd c2 (by decide)
      · refine lv_lconst (v := 0) hx hb dX4_reason_16 (by decide) ?_
        refine lv_goto (tgt := 23) hx hb dX4_reason_17 (by decide) ?_
        have hP9 := hP.sub (ws' := [(mA 0, .inr (4, [.int 1, .ref (mA 1), .ref (mA 2), .ref (mA 3), .int (nI (mx_n T)), .int (nI (mx_m F)), .ref (mA 4), .ref (mA 5), .ref (mA 6), .ref (mA 7), .ref (mA 8), .ref (mA 9), .int jo2_1, .ref (mA 10), .ref (mA 11)])), (mA 1, .inl (cZ, 16, .inl isb)), (mA 3, .inl (cI, 16, .inl pls)), (mA 4, .inl (cI, 60, .inl msg)), (mA 5, .inl (cI, 180, .inl at_)), (mA 6, .inl (cI, 40, .inl on)), (mA 7, .inl (cI, 40, .inl tw)), (mA 8, .inl (cZ, 40, .inl sa)), (mA 9, .inl (cI, 60, .inl le2_1))]) [0, 1, 2, 3, 4, 5, 6, 7, 8] rfl
        have hD9 := hD.sub (ws' := [(mA 0, .inr (4, [.int 1, .ref (mA 1), .ref (mA 2), .ref (mA 3), .int (nI (mx_n T)), .int (nI (mx_m F)), .ref (mA 4), .ref (mA 5), .ref (mA 6), .ref (mA 7), .ref (mA 8), .ref (mA 9), .int jo2_1, .ref (mA 10), .ref (mA 11)])), (mA 1, .inl (cZ, 16, .inl isb)), (mA 3, .inl (cI, 16, .inl pls)), (mA 4, .inl (cI, 60, .inl msg)), (mA 5, .inl (cI, 180, .inl at_)), (mA 6, .inl (cI, 40, .inl on)), (mA 7, .inl (cI, 40, .inl tw)), (mA 8, .inl (cZ, 40, .inl sa)), (mA 9, .inl (cI, 60, .inl le2_1))]) [0, 1, 2, 3, 4, 5, 6, 7, 8] (by decide) rfl
        exact W.lret (v := 0) hx hb hr (fun t9 ht9 hW9 => ⟨⟨0, (1, le2_1, jo2_1), rfl, Or.inr ⟨hbad, rfl⟩, by rw [ht9]; exact hP9, va_K.moved hW9.alike hK, hD9⟩, hS.F ht9⟩) hS.2.2 dX4_reason_23

set_option maxHeartbeats 4000000 in
set_option maxRecDepth 100000 in
theorem cl_l {p : Program} {l : Launch} {e : Env} {s : State} {m : MethodId} {args : Array Value} {below : List Frame} {meth : Method} {c : Code} {Q : State → Prop} (hx : p.tables.exec = Jvm.exec) (hb : c.code = cX4_clash) (hown : s.vm.findClass RX4 = some m.cls) (hts : ∀ w ∈ wsX4_clash, w.before args s = true) {dC : Nat → ClassId} {dI : Nat → Nat → Nat} {cI cJ cZ : ClassId} (hK : va_K (dC, dI) vwCl [(cI, .int), (cJ, .long), (cZ, .boolean)] s) {T : mx_T} {F : mx_F} {mA : Nat → Nat} {isb : Nat → Int32} {pls : Nat → Int32} {msg : Nat → Int32} {at_ : Nat → Int32} {on : Nat → Int32} {tw : Nat → Int32} {sa : Nat → Int32} (hw : mx_wf T) (hpf : mx_pf T) (hn : mx_n T ≤ 60) (hmt : md_T T isb pls msg at_) (hmf : mx_m F ≤ 40 ∧ ∀ f, f < mx_m F → on f = nI (mx_lf F f) ∧ tw f = nI (mx_rt F f) ∧ mx_lf F f < mx_n T ∧ mx_rt F f < mx_n T ∧ sa f = (if mx_sm F f = true then 1 else 0)) {A : Nat → Prop} {H0 : Heap} (hA : ∀ q : Nat, H0.size ≤ q → A q) (hml : c.maxLocals = 6) (kk : ∀ (kept : Int64) (le : Nat → Int32) (jo : Int32) (bl : Nat → Int32) (H : Heap) (locs : List Loc) (ls : Array Slot), (jb kept = mx_kp (rq_R T F none) (mx_m F) (mx_m F)) → va_P (dC, dI) vwCl [(mA 0, .inr (4, [.int 0, .ref (mA 1), .ref (mA 2), .ref (mA 3), .int (nI (mx_n T)), .int (nI (mx_m F)), .ref (mA 4), .ref (mA 5), .ref (mA 6), .ref (mA 7), .ref (mA 8), .ref (mA 9), .int jo, .ref (mA 10), .ref (mA 11)])), (mA 1, .inl (cZ, 16, .inl isb)), (mA 3, .inl (cI, 16, .inl pls)), (mA 4, .inl (cI, 60, .inl msg)), (mA 5, .inl (cI, 180, .inl at_)), (mA 6, .inl (cI, 40, .inl on)), (mA 7, .inl (cI, 40, .inl tw)), (mA 8, .inl (cZ, 40, .inl sa)), (mA 9, .inl (cI, 60, .inl le)), (mA 10, .inl (cZ, 3600, .inl bl))] H → va_D A [(mA 0, .inr (4, [.int 0, .ref (mA 1), .ref (mA 2), .ref (mA 3), .int (nI (mx_n T)), .int (nI (mx_m F)), .ref (mA 4), .ref (mA 5), .ref (mA 6), .ref (mA 7), .ref (mA 8), .ref (mA 9), .int jo, .ref (mA 10), .ref (mA 11)])), (mA 1, .inl (cZ, 16, .inl isb)), (mA 3, .inl (cI, 16, .inl pls)), (mA 4, .inl (cI, 60, .inl msg)), (mA 5, .inl (cI, 180, .inl at_)), (mA 6, .inl (cI, 40, .inl on)), (mA 7, .inl (cI, 40, .inl tw)), (mA 8, .inl (cZ, 40, .inl sa)), (mA 9, .inl (cI, 60, .inl le)), (mA 10, .inl (cZ, 3600, .inl bl))] → va_S A H0 H locs → lv_has ls 6 [(1, .long kept)] → W p l e ({ frames := 3, cells := 0, slots := 0, locals := 73 }) s m args below meth c H locs 0 0 Q (F0 m 64 ls [])) : ∀ (d : Nat) (j : Nat) (kv : Int32) (kept : Int64) (le : Nat → Int32) (jo : Int32) (bl : Nat → Int32) (H : Heap) (locs : List Loc) (ls : Array Slot), (j = d) → (j ≤ mx_m F) → (kv = nI j - 1) → (jb kept = rk_K (rq_R T F none) (mx_m F) j) → va_P (dC, dI) vwCl [(mA 0, .inr (4, [.int 0, .ref (mA 1), .ref (mA 2), .ref (mA 3), .int (nI (mx_n T)), .int (nI (mx_m F)), .ref (mA 4), .ref (mA 5), .ref (mA 6), .ref (mA 7), .ref (mA 8), .ref (mA 9), .int jo, .ref (mA 10), .ref (mA 11)])), (mA 1, .inl (cZ, 16, .inl isb)), (mA 3, .inl (cI, 16, .inl pls)), (mA 4, .inl (cI, 60, .inl msg)), (mA 5, .inl (cI, 180, .inl at_)), (mA 6, .inl (cI, 40, .inl on)), (mA 7, .inl (cI, 40, .inl tw)), (mA 8, .inl (cZ, 40, .inl sa)), (mA 9, .inl (cI, 60, .inl le)), (mA 10, .inl (cZ, 3600, .inl bl))] H → va_D A [(mA 0, .inr (4, [.int 0, .ref (mA 1), .ref (mA 2), .ref (mA 3), .int (nI (mx_n T)), .int (nI (mx_m F)), .ref (mA 4), .ref (mA 5), .ref (mA 6), .ref (mA 7), .ref (mA 8), .ref (mA 9), .int jo, .ref (mA 10), .ref (mA 11)])), (mA 1, .inl (cZ, 16, .inl isb)), (mA 3, .inl (cI, 16, .inl pls)), (mA 4, .inl (cI, 60, .inl msg)), (mA 5, .inl (cI, 180, .inl at_)), (mA 6, .inl (cI, 40, .inl on)), (mA 7, .inl (cI, 40, .inl tw)), (mA 8, .inl (cZ, 40, .inl sa)), (mA 9, .inl (cI, 60, .inl le)), (mA 10, .inl (cZ, 3600, .inl bl))] → va_S A H0 H locs → lv_has ls 6 [(0, .ref (mA 0)), (1, .long kept), (3, .int kv)] → W p l e ({ frames := 3, cells := 0, slots := 0, locals := 73 }) s m args below meth c H locs 0 0 Q (F0 m 23 ls []) := by
  intro d
  induction d with
  | zero =>
    intro j kv kept le jo bl H locs ls hd hj hk hI hP hD hS hl
    subst hd
    subst hk
    refine lv_iload_n hx hb dX4_clash_23 rfl (lv_at hl 2 rfl) ?_
    refine lv_if_lt (tgt := 64) hx hb dX4_clash_24 (by decide) (fun c1 => ?_) (fun c1 => ?_)
    · rw [rk_Ke] at hI
      refine kk kept le jo bl _ _ _ hI hP hD hS (lv_sub hl [1] rfl)
    · exact absurd (by decide) c1
  | succ d ih =>
    intro j kv kept le jo bl H locs ls hd hj hk hI hP hD hS hl
    subst hd
    have hj0 : d < mx_m F := by omega
    have hm := hmf.1
    have hfw := mf_fw hmf
    have hk : kv = nI d := by rw [hk]; exact nI_pred d
    subst hk
    refine lv_iload_n hx hb dX4_clash_23 rfl (lv_at hl 2 rfl) ?_
    refine lv_if_lt (tgt := 64) hx hb dX4_clash_24 (by decide) (fun c1 => ?_) (fun c1 => ?_)
    · exact absurd c1 (nI_pos (by omega))
    · have hmi := rk_minus hj0 hm hI
      refine lv_lload_n hx hb dX4_clash_27 rfl (lv_at hl 1 rfl) ?_
      refine lv_lconst (v := 1) hx hb dX4_clash_28 (by decide) ?_
      refine lv_iload_n hx hb dX4_clash_29 rfl (lv_at hl 2 rfl) ?_
      refine lv_lshl (v := (1 : Int64) <<< ((nI d).toInt64 &&& 63)) hx hb dX4_clash_30 rfl ?_
      refine lv_ldc2 (v := (-1)) hx hb hown (hts _ (woX4_clash _ wd_620)) dX4_clash_31 ?_
      refine lv_lxor hx hb dX4_clash_34 ?_
      refine lv_land hx hb dX4_clash_35 ?_
      refine lv_topl (fun fw_1 efw_1 => ?_)
      have hfw2 : jb fw_1 = fun g => mx_kp (rq_R T F none) (mx_m F) (mx_m F - (d + 1)) g || decide (g < d) := by rw [efw_1]; exact hmi
      refine lv_lstore (lv' := [(4, .long fw_1), (0, .ref (mA 0)), (1, .long kept), (3, .int (nI d))]) hx hb dX4_clash_36 hl (by decide) rfl (fun ls hl => ?_)
      refine lv_aload_n hx hb dX4_clash_38 rfl (lv_at hl 1 rfl) ?_
      refine lv_lload hx hb dX4_clash_39 (lv_at hl 0 rfl) ?_
      refine lv_iconst (v := 0) hx hb dX4_clash_41 (by decide) ?_
      refine lv_iconst (v := 0) hx hb dX4_clash_42 (by decide) ?_
      refine W.eq (g2 := F0 m 43 ls [.int (nI 0), .int (nI 0), .long fw_1, .ref (mA 0)]) rfl ?_
      have hPc := hP.sub (ws' := [(mA 0, .inr (4, [.int 0, .ref (mA 1), .ref (mA 2), .ref (mA 3), .int (nI (mx_n T)), .int (nI (mx_m F)), .ref (mA 4), .ref (mA 5), .ref (mA 6), .ref (mA 7), .ref (mA 8), .ref (mA 9), .int jo, .ref (mA 10), .ref (mA 11)])), (mA 1, .inl (cZ, 16, .inl isb)), (mA 3, .inl (cI, 16, .inl pls)), (mA 4, .inl (cI, 60, .inl msg)), (mA 5, .inl (cI, 180, .inl at_)), (mA 6, .inl (cI, 40, .inl on)), (mA 7, .inl (cI, 40, .inl tw)), (mA 8, .inl (cZ, 40, .inl sa)), (mA 9, .inl (cI, 60, .inl le))]) [0, 1, 2, 3, 4, 5, 6, 7, 8] rfl
      have hDc := hD.sub (ws' := [(mA 0, .inr (4, [.int 0, .ref (mA 1), .ref (mA 2), .ref (mA 3), .int (nI (mx_n T)), .int (nI (mx_m F)), .ref (mA 4), .ref (mA 5), .ref (mA 6), .ref (mA 7), .ref (mA 8), .ref (mA 9), .int jo, .ref (mA 10), .ref (mA 11)])), (mA 1, .inl (cZ, 16, .inl isb)), (mA 3, .inl (cI, 16, .inl pls)), (mA 4, .inl (cI, 60, .inl msg)), (mA 5, .inl (cI, 180, .inl at_)), (mA 6, .inl (cI, 40, .inl on)), (mA 7, .inl (cI, 40, .inl tw)), (mA 8, .inl (cZ, 40, .inl sa)), (mA 9, .inl (cI, 60, .inl le))]) [0, 1, 2, 3, 4, 5, 6, 7, 8] (by decide) rfl
      have hFc := va_free (wc := [(mA 0, .inr (4, [.int 0, .ref (mA 1), .ref (mA 2), .ref (mA 3), .int (nI (mx_n T)), .int (nI (mx_m F)), .ref (mA 4), .ref (mA 5), .ref (mA 6), .ref (mA 7), .ref (mA 8), .ref (mA 9), .int jo, .ref (mA 10), .ref (mA 11)])), (mA 1, .inl (cZ, 16, .inl isb)), (mA 3, .inl (cI, 16, .inl pls)), (mA 4, .inl (cI, 60, .inl msg)), (mA 5, .inl (cI, 180, .inl at_)), (mA 6, .inl (cI, 40, .inl on)), (mA 7, .inl (cI, 40, .inl tw)), (mA 8, .inl (cZ, 40, .inl sa)), (mA 9, .inl (cI, 60, .inl le))]) hD hS hA [0, 1, 2, 3, 4, 5, 6, 7, 8] rfl
      refine va_callv (va_runV (As := [.long fw_1, .int (nI 0), .int (nI 0)]) (rest := []) ⟨hx, hb, hml, hown, hts⟩ (m_joinAll l dC dI cI cJ cZ T F mA 0 jo isb pls msg at_ on tw sa le fw_1 0 0 H.size hw hpf hn hmt hmf (fun q => ⟨q, q⟩)) (cwV 3 hts (w0_goodV woX4_clash wd_586 wd_583 wd_585 ws_16 wd_5) rfl rfl rfl (by decide +kernel) ⟨Nat.le_of_ble_eq_true rfl, Nat.le_of_ble_eq_true rfl⟩) ⟨fun a U g mk q => by obtain ⟨q0, q1, qP, qK, qD⟩ := q; exact ⟨q0, q1, qP, va_K.moved (u := U) (U := U.calling g mk a) (Vm.Alike.refl U.vm) qK, qD⟩, va_recv hK hP (ci := 4) (q0 := 0) rfl rfl, fun U hU hW => ⟨rfl, by rw [hU], by rw [hU]; exact hPc, va_K.moved hW.alike hK, hDc.weaken (fun _ _ _ _ => trivial)⟩⟩ rfl rfl hl.1 rfl (lv_room (Nat.le_of_ble_eq_true rfl)) dX4_clash_43 ⟨Nat.zero_le _, Nat.zero_le _⟩) hS (fun q _ h => hFc q h) hFc (fun u t8 H1 locs ht8 hvm hj3 hB hz1 hk1 hS => ?_)
      obtain ⟨le2_2, jo2_2⟩ := u
      obtain ⟨hP1, hK1, hD1⟩ := hB
      rw [ht8] at hP1
      try dsimp only at hj3
      obtain ⟨hP, hD⟩ := va_join (wr := [(mA 10, .inl (cZ, 3600, .inl bl))]) (w1 := [(mA 0, .inr (4, [.int 0, .ref (mA 1), .ref (mA 2), .ref (mA 3), .int (nI (mx_n T)), .int (nI (mx_m F)), .ref (mA 4), .ref (mA 5), .ref (mA 6), .ref (mA 7), .ref (mA 8), .ref (mA 9), .int jo2_2, .ref (mA 10), .ref (mA 11)])), (mA 1, .inl (cZ, 16, .inl isb)), (mA 3, .inl (cI, 16, .inl pls)), (mA 4, .inl (cI, 60, .inl msg)), (mA 5, .inl (cI, 180, .inl at_)), (mA 6, .inl (cI, 40, .inl on)), (mA 7, .inl (cI, 40, .inl tw)), (mA 8, .inl (cZ, 40, .inl sa)), (mA 9, .inl (cI, 60, .inl le2_2))]) hP hD [0, 1, 2, 3, 4, 5, 6, 7, 8] [9] rfl rfl (by decide) (by decide) hk1 hFc hP1 hD1
      have hP := hP.sub (ws' := [(mA 0, .inr (4, [.int 0, .ref (mA 1), .ref (mA 2), .ref (mA 3), .int (nI (mx_n T)), .int (nI (mx_m F)), .ref (mA 4), .ref (mA 5), .ref (mA 6), .ref (mA 7), .ref (mA 8), .ref (mA 9), .int jo2_2, .ref (mA 10), .ref (mA 11)])), (mA 1, .inl (cZ, 16, .inl isb)), (mA 3, .inl (cI, 16, .inl pls)), (mA 4, .inl (cI, 60, .inl msg)), (mA 5, .inl (cI, 180, .inl at_)), (mA 6, .inl (cI, 40, .inl on)), (mA 7, .inl (cI, 40, .inl tw)), (mA 8, .inl (cZ, 40, .inl sa)), (mA 9, .inl (cI, 60, .inl le2_2)), (mA 10, .inl (cZ, 3600, .inl bl))]) [1, 2, 3, 4, 5, 6, 7, 8, 9, 0] rfl
      have hD := hD.sub (ws' := [(mA 0, .inr (4, [.int 0, .ref (mA 1), .ref (mA 2), .ref (mA 3), .int (nI (mx_n T)), .int (nI (mx_m F)), .ref (mA 4), .ref (mA 5), .ref (mA 6), .ref (mA 7), .ref (mA 8), .ref (mA 9), .int jo2_2, .ref (mA 10), .ref (mA 11)])), (mA 1, .inl (cZ, 16, .inl isb)), (mA 3, .inl (cI, 16, .inl pls)), (mA 4, .inl (cI, 60, .inl msg)), (mA 5, .inl (cI, 180, .inl at_)), (mA 6, .inl (cI, 40, .inl on)), (mA 7, .inl (cI, 40, .inl tw)), (mA 8, .inl (cZ, 40, .inl sa)), (mA 9, .inl (cI, 60, .inl le2_2)), (mA 10, .inl (cZ, 3600, .inl bl))]) [1, 2, 3, 4, 5, 6, 7, 8, 9, 0] (by decide) rfl
      generalize H1 = H at hP hS ⊢
      obtain ⟨nn, g1, g2⟩ := hj3
      have g1 : md_L T nn le2_2 := g1
      have g3 := ja_same (fun q => q) g2
      rw [hfw2] at g3
      have g4 := rq_iff hw hfw (q := none) (fun a b e => by cases e) g3
      refine lv_aload_n hx hb dX4_clash_46 rfl (lv_at hl 1 rfl) ?_
      refine lv_lload hx hb dX4_clash_47 (lv_at hl 0 rfl) ?_
      have hPc := hP.sub (ws' := [(mA 0, .inr (4, [.int 0, .ref (mA 1), .ref (mA 2), .ref (mA 3), .int (nI (mx_n T)), .int (nI (mx_m F)), .ref (mA 4), .ref (mA 5), .ref (mA 6), .ref (mA 7), .ref (mA 8), .ref (mA 9), .int jo2_2, .ref (mA 10), .ref (mA 11)])), (mA 1, .inl (cZ, 16, .inl isb)), (mA 3, .inl (cI, 16, .inl pls)), (mA 4, .inl (cI, 60, .inl msg)), (mA 5, .inl (cI, 180, .inl at_)), (mA 6, .inl (cI, 40, .inl on)), (mA 7, .inl (cI, 40, .inl tw)), (mA 8, .inl (cZ, 40, .inl sa)), (mA 9, .inl (cI, 60, .inl le2_2)), (mA 10, .inl (cZ, 3600, .inl bl))]) [0, 1, 2, 3, 4, 5, 6, 7, 8, 9] rfl
      have hDc := hD.sub (ws' := [(mA 0, .inr (4, [.int 0, .ref (mA 1), .ref (mA 2), .ref (mA 3), .int (nI (mx_n T)), .int (nI (mx_m F)), .ref (mA 4), .ref (mA 5), .ref (mA 6), .ref (mA 7), .ref (mA 8), .ref (mA 9), .int jo2_2, .ref (mA 10), .ref (mA 11)])), (mA 1, .inl (cZ, 16, .inl isb)), (mA 3, .inl (cI, 16, .inl pls)), (mA 4, .inl (cI, 60, .inl msg)), (mA 5, .inl (cI, 180, .inl at_)), (mA 6, .inl (cI, 40, .inl on)), (mA 7, .inl (cI, 40, .inl tw)), (mA 8, .inl (cZ, 40, .inl sa)), (mA 9, .inl (cI, 60, .inl le2_2)), (mA 10, .inl (cZ, 3600, .inl bl))]) [0, 1, 2, 3, 4, 5, 6, 7, 8, 9] (by decide) rfl
      have hFc := va_free (wc := [(mA 0, .inr (4, [.int 0, .ref (mA 1), .ref (mA 2), .ref (mA 3), .int (nI (mx_n T)), .int (nI (mx_m F)), .ref (mA 4), .ref (mA 5), .ref (mA 6), .ref (mA 7), .ref (mA 8), .ref (mA 9), .int jo2_2, .ref (mA 10), .ref (mA 11)])), (mA 1, .inl (cZ, 16, .inl isb)), (mA 3, .inl (cI, 16, .inl pls)), (mA 4, .inl (cI, 60, .inl msg)), (mA 5, .inl (cI, 180, .inl at_)), (mA 6, .inl (cI, 40, .inl on)), (mA 7, .inl (cI, 40, .inl tw)), (mA 8, .inl (cZ, 40, .inl sa)), (mA 9, .inl (cI, 60, .inl le2_2)), (mA 10, .inl (cZ, 3600, .inl bl))]) hD hS hA [0, 1, 2, 3, 4, 5, 6, 7, 8, 9] rfl
      refine va_calli (va_runV (As := [.long fw_1]) (rest := []) ⟨hx, hb, hml, hown, hts⟩ (m_clashing l dC dI cI cJ cZ T F nn mA 0 jo2_2 isb pls msg at_ on tw sa le2_2 bl fw_1 H.size hw hpf hn hmt hmf g1) (cwV 1 hts (w0_goodV woX4_clash wd_602 wd_599 wd_601 ws_19 wd_5) rfl rfl rfl (by decide +kernel) ⟨Nat.le_of_ble_eq_true rfl, Nat.le_of_ble_eq_true rfl⟩) ⟨fun a U g mk q => by obtain ⟨q0, q1, qP, qK, qD⟩ := q; exact ⟨q0, q1, qP, va_K.moved (u := U) (U := U.calling g mk a) (Vm.Alike.refl U.vm) qK, qD⟩, va_recv hK hP (ci := 4) (q0 := 0) rfl rfl, fun U hU hW => ⟨rfl, by rw [hU], by rw [hU]; exact hPc, va_K.moved hW.alike hK, hDc.weaken (fun _ _ _ _ => trivial)⟩⟩ rfl rfl hl.1 rfl (lv_room (Nat.le_of_ble_eq_true rfl)) dX4_clash_49 ⟨Nat.zero_le _, Nat.zero_le _⟩) hS (fun q _ h => hFc q h) hFc (fun r5 u t8 H1 locs ht8 hvm hr5 hB hz1 hk1 hS => ?_)
      obtain ⟨bl2_3, rfl⟩ : ∃ z, z = u := ⟨_, rfl⟩
      obtain ⟨hP1, hK1, hD1⟩ := hB
      rw [ht8] at hP1
      try dsimp only at hr5
      obtain ⟨hP, hD⟩ := va_join (wr := []) (w1 := [(mA 0, .inr (4, [.int 0, .ref (mA 1), .ref (mA 2), .ref (mA 3), .int (nI (mx_n T)), .int (nI (mx_m F)), .ref (mA 4), .ref (mA 5), .ref (mA 6), .ref (mA 7), .ref (mA 8), .ref (mA 9), .int jo2_2, .ref (mA 10), .ref (mA 11)])), (mA 1, .inl (cZ, 16, .inl isb)), (mA 3, .inl (cI, 16, .inl pls)), (mA 4, .inl (cI, 60, .inl msg)), (mA 5, .inl (cI, 180, .inl at_)), (mA 6, .inl (cI, 40, .inl on)), (mA 7, .inl (cI, 40, .inl tw)), (mA 8, .inl (cZ, 40, .inl sa)), (mA 9, .inl (cI, 60, .inl le2_2)), (mA 10, .inl (cZ, 3600, .inl bl2_3))]) hP hD [0, 1, 2, 3, 4, 5, 6, 7, 8, 9] [] rfl rfl (by decide) (by decide) hk1 hFc hP1 hD1
      have hP := hP.sub (ws' := [(mA 0, .inr (4, [.int 0, .ref (mA 1), .ref (mA 2), .ref (mA 3), .int (nI (mx_n T)), .int (nI (mx_m F)), .ref (mA 4), .ref (mA 5), .ref (mA 6), .ref (mA 7), .ref (mA 8), .ref (mA 9), .int jo2_2, .ref (mA 10), .ref (mA 11)])), (mA 1, .inl (cZ, 16, .inl isb)), (mA 3, .inl (cI, 16, .inl pls)), (mA 4, .inl (cI, 60, .inl msg)), (mA 5, .inl (cI, 180, .inl at_)), (mA 6, .inl (cI, 40, .inl on)), (mA 7, .inl (cI, 40, .inl tw)), (mA 8, .inl (cZ, 40, .inl sa)), (mA 9, .inl (cI, 60, .inl le2_2)), (mA 10, .inl (cZ, 3600, .inl bl2_3))]) [0, 1, 2, 3, 4, 5, 6, 7, 8, 9] rfl
      have hD := hD.sub (ws' := [(mA 0, .inr (4, [.int 0, .ref (mA 1), .ref (mA 2), .ref (mA 3), .int (nI (mx_n T)), .int (nI (mx_m F)), .ref (mA 4), .ref (mA 5), .ref (mA 6), .ref (mA 7), .ref (mA 8), .ref (mA 9), .int jo2_2, .ref (mA 10), .ref (mA 11)])), (mA 1, .inl (cZ, 16, .inl isb)), (mA 3, .inl (cI, 16, .inl pls)), (mA 4, .inl (cI, 60, .inl msg)), (mA 5, .inl (cI, 180, .inl at_)), (mA 6, .inl (cI, 40, .inl on)), (mA 7, .inl (cI, 40, .inl tw)), (mA 8, .inl (cZ, 40, .inl sa)), (mA 9, .inl (cI, 60, .inl le2_2)), (mA 10, .inl (cZ, 3600, .inl bl2_3))]) [0, 1, 2, 3, 4, 5, 6, 7, 8, 9] (by decide) rfl
      generalize H1 = H at hP hS ⊢
      rw [hfw2] at hr5
      refine lv_if_eq (tgt := 58) hx hb dX4_clash_52 (by decide) (fun c2 => ?_) (fun c2 => ?_)
      · obtain ⟨y_4, ey_4⟩ : ∃ y9 : Int32, y9 = (nI d) + (-1) := ⟨_, rfl⟩
        refine lv_iinc (v := y_4) (lv' := [(3, .int y_4), (4, .long fw_1), (0, .ref (mA 0)), (1, .long kept)]) hx hb dX4_clash_58 hl (k := 3) rfl (by rw [ey_4]; rfl) (by decide) rfl (fun ls hl => ?_)
        refine lv_goto (tgt := 23) hx hb dX4_clash_61 (by decide) ?_
        rw [pm1] at ey_4
        refine ih d y_4 kept le2_2 jo2_2 bl2_3 _ _ _ rfl (by omega) ey_4 (hI.trans (rk_in hj0 (fun q => zb_f hr5 c2 (g4.mpr q)))) hP hD hS (lv_sub hl [2, 3, 0] rfl)
      · refine lv_lload hx hb dX4_clash_55 (lv_at hl 0 rfl) ?_
        refine lv_lstore_n (lv' := [(1, .long fw_1), (4, .long fw_1), (0, .ref (mA 0)), (3, .int (nI d))]) hx hb dX4_clash_57 rfl hl (by decide) rfl (fun ls hl => ?_)
        obtain ⟨y_5, ey_5⟩ : ∃ y9 : Int32, y9 = (nI d) + (-1) := ⟨_, rfl⟩
        refine lv_iinc (v := y_5) (lv' := [(3, .int y_5), (1, .long fw_1), (4, .long fw_1), (0, .ref (mA 0))]) hx hb dX4_clash_58 hl (k := 3) rfl (by rw [ey_5]; rfl) (by decide) rfl (fun ls hl => ?_)
        refine lv_goto (tgt := 23) hx hb dX4_clash_61 (by decide) ?_
        rw [pm1] at ey_5
        refine ih d y_5 fw_1 le2_2 jo2_2 bl2_3 _ _ _ rfl (by omega) ey_5 (by rw [hfw2]; exact rk_out hj0 (g4.mp (zb_t hr5 c2))) hP hD hS (lv_sub hl [3, 1, 0] rfl)

set_option maxHeartbeats 4000000 in
set_option maxRecDepth 100000 in
/-- the reference: clash -/
theorem m_clash (l : Launch) (dC : Nat → ClassId) (dI : Nat → Nat → Nat) (cI cJ cZ : ClassId) (T : mx_T) (F : mx_F) (mA : Nat → Nat) (th : Int32) (jo : Int32) (isb : Nat → Int32) (pls : Nat → Int32) (msg : Nat → Int32) (at_ : Nat → Int32) (on : Nat → Int32) (tw : Nat → Int32) (sa : Nat → Int32) (le : Nat → Int32) (bl : Nat → Int32) (sz : Nat) (hw : mx_wf T) (hpf : mx_pf T) (hn : mx_n T ≤ 60) (hmt : md_T T isb pls msg at_) (hmf : mx_m F ≤ 40 ∧ ∀ f, f < mx_m F → on f = nI (mx_lf F f) ∧ tw f = nI (mx_rt F f) ∧ mx_lf F f < mx_n T ∧ mx_rt F f < mx_n T ∧ sa f = (if mx_sm F f = true then 1 else 0)) : Met l yX4_clash wsX4_clash ({ frames := 3, cells := 0, slots := 0, locals := 73 }) (va_Pc [.ref (mA 0)] (fun U => U.heap.size = sz ∧ va_P (dC, dI) vwCl [(mA 0, .inr (4, [.int th, .ref (mA 1), .ref (mA 2), .ref (mA 3), .int (nI (mx_n T)), .int (nI (mx_m F)), .ref (mA 4), .ref (mA 5), .ref (mA 6), .ref (mA 7), .ref (mA 8), .ref (mA 9), .int jo, .ref (mA 10), .ref (mA 11)])), (mA 1, .inl (cZ, 16, .inl isb)), (mA 3, .inl (cI, 16, .inl pls)), (mA 4, .inl (cI, 60, .inl msg)), (mA 5, .inl (cI, 180, .inl at_)), (mA 6, .inl (cI, 40, .inl on)), (mA 7, .inl (cI, 40, .inl tw)), (mA 8, .inl (cZ, 40, .inl sa)), (mA 9, .inl (cI, 60, .inl le)), (mA 10, .inl (cZ, 3600, .inl bl))] U.heap ∧ va_K (dC, dI) vwCl [(cI, .int), (cJ, .long), (cZ, .boolean)] U ∧ va_D (fun _ => True) [(mA 0, .inr (4, [.int th, .ref (mA 1), .ref (mA 2), .ref (mA 3), .int (nI (mx_n T)), .int (nI (mx_m F)), .ref (mA 4), .ref (mA 5), .ref (mA 6), .ref (mA 7), .ref (mA 8), .ref (mA 9), .int jo, .ref (mA 10), .ref (mA 11)])), (mA 1, .inl (cZ, 16, .inl isb)), (mA 3, .inl (cI, 16, .inl pls)), (mA 4, .inl (cI, 60, .inl msg)), (mA 5, .inl (cI, 180, .inl at_)), (mA 6, .inl (cI, 40, .inl on)), (mA 7, .inl (cI, 40, .inl tw)), (mA 8, .inl (cZ, 40, .inl sa)), (mA 9, .inl (cI, 60, .inl le)), (mA 10, .inl (cZ, 3600, .inl bl))])) (va_Ql (fun r u => re_P (rq_R T F none) (mx_m F) r) (fun (u : (Nat → Int32) × Int32 × (Nat → Int32)) t7 => match u with | (le2, jo2, bl2) => va_P (dC, dI) vwCl [(mA 0, .inr (4, [.int 0, .ref (mA 1), .ref (mA 2), .ref (mA 3), .int (nI (mx_n T)), .int (nI (mx_m F)), .ref (mA 4), .ref (mA 5), .ref (mA 6), .ref (mA 7), .ref (mA 8), .ref (mA 9), .int jo2, .ref (mA 10), .ref (mA 11)])), (mA 1, .inl (cZ, 16, .inl isb)), (mA 3, .inl (cI, 16, .inl pls)), (mA 4, .inl (cI, 60, .inl msg)), (mA 5, .inl (cI, 180, .inl at_)), (mA 6, .inl (cI, 40, .inl on)), (mA 7, .inl (cI, 40, .inl tw)), (mA 8, .inl (cZ, 40, .inl sa)), (mA 9, .inl (cI, 60, .inl le2)), (mA 10, .inl (cZ, 3600, .inl bl2))] t7.heap ∧ va_K (dC, dI) vwCl [(cI, .int), (cJ, .long), (cZ, .boolean)] t7 ∧ va_D (va_A [(mA 0, .inr (4, [.int th, .ref (mA 1), .ref (mA 2), .ref (mA 3), .int (nI (mx_n T)), .int (nI (mx_m F)), .ref (mA 4), .ref (mA 5), .ref (mA 6), .ref (mA 7), .ref (mA 8), .ref (mA 9), .int jo, .ref (mA 10), .ref (mA 11)])), (mA 1, .inl (cZ, 16, .inl isb)), (mA 3, .inl (cI, 16, .inl pls)), (mA 4, .inl (cI, 60, .inl msg)), (mA 5, .inl (cI, 180, .inl at_)), (mA 6, .inl (cI, 40, .inl on)), (mA 7, .inl (cI, 40, .inl tw)), (mA 8, .inl (cZ, 40, .inl sa)), (mA 9, .inl (cI, 60, .inl le)), (mA 10, .inl (cZ, 3600, .inl bl))] sz) [(mA 0, .inr (4, [.int 0, .ref (mA 1), .ref (mA 2), .ref (mA 3), .int (nI (mx_n T)), .int (nI (mx_m F)), .ref (mA 4), .ref (mA 5), .ref (mA 6), .ref (mA 7), .ref (mA 8), .ref (mA 9), .int jo2, .ref (mA 10), .ref (mA 11)])), (mA 1, .inl (cZ, 16, .inl isb)), (mA 3, .inl (cI, 16, .inl pls)), (mA 4, .inl (cI, 60, .inl msg)), (mA 5, .inl (cI, 180, .inl at_)), (mA 6, .inl (cI, 40, .inl on)), (mA 7, .inl (cI, 40, .inl tw)), (mA 8, .inl (cZ, 40, .inl sa)), (mA 9, .inl (cI, 60, .inl le2)), (mA 10, .inl (cZ, 3600, .inl bl2))]) (va_A [(mA 0, .inr (4, [.int th, .ref (mA 1), .ref (mA 2), .ref (mA 3), .int (nI (mx_n T)), .int (nI (mx_m F)), .ref (mA 4), .ref (mA 5), .ref (mA 6), .ref (mA 7), .ref (mA 8), .ref (mA 9), .int jo, .ref (mA 10), .ref (mA 11)])), (mA 1, .inl (cZ, 16, .inl isb)), (mA 3, .inl (cI, 16, .inl pls)), (mA 4, .inl (cI, 60, .inl msg)), (mA 5, .inl (cI, 180, .inl at_)), (mA 6, .inl (cI, 40, .inl on)), (mA 7, .inl (cI, 40, .inl tw)), (mA 8, .inl (cZ, 40, .inl sa)), (mA 9, .inl (cI, 60, .inl le)), (mA 10, .inl (cZ, 3600, .inl bl))] sz)) 0 0 (va_A [(mA 0, .inr (4, [.int th, .ref (mA 1), .ref (mA 2), .ref (mA 3), .int (nI (mx_n T)), .int (nI (mx_m F)), .ref (mA 4), .ref (mA 5), .ref (mA 6), .ref (mA 7), .ref (mA 8), .ref (mA 9), .int jo, .ref (mA 10), .ref (mA 11)])), (mA 1, .inl (cZ, 16, .inl isb)), (mA 3, .inl (cI, 16, .inl pls)), (mA 4, .inl (cI, 60, .inl msg)), (mA 5, .inl (cI, 180, .inl at_)), (mA 6, .inl (cI, 40, .inl on)), (mA 7, .inl (cI, 40, .inl tw)), (mA 8, .inl (cZ, 40, .inl sa)), (mA 9, .inl (cI, 60, .inl le)), (mA 10, .inl (cZ, 3600, .inl bl))] sz) := by
  refine Met.ofW (cc := cX4_clash) (maxL := 6) (ret := (some .long)) (by decide) rfl ?_
  intro p e s m args below meth c s₁ B hml hv
  obtain ⟨rfl, hsz, hP, hK, hD0⟩ := hv
  have hx := B.exec
  have hb := B.bytes
  have hr := B.returns
  have hts := atoms_spec (ws := wsX4_clash) B.pre
  have hown : s.vm.findClass RX4 = some m.cls := findClass_of_methodNamed B.named
  have hlocks := B.notSynchronized
  subst hsz
  have hD := hD0.self (sz := s.heap.size)
  generalize hAe : va_A [(mA 0, .inr (4, [.int th, .ref (mA 1), .ref (mA 2), .ref (mA 3), .int (nI (mx_n T)), .int (nI (mx_m F)), .ref (mA 4), .ref (mA 5), .ref (mA 6), .ref (mA 7), .ref (mA 8), .ref (mA 9), .int jo, .ref (mA 10), .ref (mA 11)])), (mA 1, .inl (cZ, 16, .inl isb)), (mA 3, .inl (cI, 16, .inl pls)), (mA 4, .inl (cI, 60, .inl msg)), (mA 5, .inl (cI, 180, .inl at_)), (mA 6, .inl (cI, 40, .inl on)), (mA 7, .inl (cI, 40, .inl tw)), (mA 8, .inl (cZ, 40, .inl sa)), (mA 9, .inl (cI, 60, .inl le)), (mA 10, .inl (cZ, 3600, .inl bl))] s.heap.size = A at hD ⊢
  have hA : ∀ q : Nat, s.heap.size ≤ q → A q := fun q h => by rw [← hAe]; exact Or.inr h
  have hS : va_S A s.heap s.heap [] := va_S.rf
  have hP : va_P (dC, dI) vwCl [(mA 0, .inr (4, [.int th, .ref (mA 1), .ref (mA 2), .ref (mA 3), .int (nI (mx_n T)), .int (nI (mx_m F)), .ref (mA 4), .ref (mA 5), .ref (mA 6), .ref (mA 7), .ref (mA 8), .ref (mA 9), .int jo, .ref (mA 10), .ref (mA 11)])), (mA 1, .inl (cZ, 16, .inl isb)), (mA 3, .inl (cI, 16, .inl pls)), (mA 4, .inl (cI, 60, .inl msg)), (mA 5, .inl (cI, 180, .inl at_)), (mA 6, .inl (cI, 40, .inl on)), (mA 7, .inl (cI, 40, .inl tw)), (mA 8, .inl (cZ, 40, .inl sa)), (mA 9, .inl (cI, 60, .inl le)), (mA 10, .inl (cZ, 3600, .inl bl))] s.heap := hP
  have hl := lv_entry ([.ref (mA 0)]) (n := 6) (Nat.le_of_ble_eq_true rfl)
  rw [lg_entry_eq]
  generalize (lg_sl ([.ref (mA 0)]) ++ List.replicate (6 - (lg_sl ([.ref (mA 0)])).length) Slot.unset).toArray = ls at hl ⊢
  have hl : lv_has ls 6 [(0, .ref (mA 0))] := hl
  refine lv_aload_n hx hb dX4_clash_0 rfl (lv_at hl 0 rfl) ?_
  have hPc := hP.sub (ws' := [(mA 0, .inr (4, [.int th, .ref (mA 1), .ref (mA 2), .ref (mA 3), .int (nI (mx_n T)), .int (nI (mx_m F)), .ref (mA 4), .ref (mA 5), .ref (mA 6), .ref (mA 7), .ref (mA 8), .ref (mA 9), .int jo, .ref (mA 10), .ref (mA 11)])), (mA 1, .inl (cZ, 16, .inl isb)), (mA 3, .inl (cI, 16, .inl pls)), (mA 4, .inl (cI, 60, .inl msg)), (mA 5, .inl (cI, 180, .inl at_)), (mA 6, .inl (cI, 40, .inl on)), (mA 7, .inl (cI, 40, .inl tw)), (mA 8, .inl (cZ, 40, .inl sa)), (mA 9, .inl (cI, 60, .inl le)), (mA 10, .inl (cZ, 3600, .inl bl))]) [0, 1, 2, 3, 4, 5, 6, 7, 8, 9] rfl
  have hDc := hD.sub (ws' := [(mA 0, .inr (4, [.int th, .ref (mA 1), .ref (mA 2), .ref (mA 3), .int (nI (mx_n T)), .int (nI (mx_m F)), .ref (mA 4), .ref (mA 5), .ref (mA 6), .ref (mA 7), .ref (mA 8), .ref (mA 9), .int jo, .ref (mA 10), .ref (mA 11)])), (mA 1, .inl (cZ, 16, .inl isb)), (mA 3, .inl (cI, 16, .inl pls)), (mA 4, .inl (cI, 60, .inl msg)), (mA 5, .inl (cI, 180, .inl at_)), (mA 6, .inl (cI, 40, .inl on)), (mA 7, .inl (cI, 40, .inl tw)), (mA 8, .inl (cZ, 40, .inl sa)), (mA 9, .inl (cI, 60, .inl le)), (mA 10, .inl (cZ, 3600, .inl bl))]) [0, 1, 2, 3, 4, 5, 6, 7, 8, 9] (by decide) rfl
  have hFc := va_free (wc := [(mA 0, .inr (4, [.int th, .ref (mA 1), .ref (mA 2), .ref (mA 3), .int (nI (mx_n T)), .int (nI (mx_m F)), .ref (mA 4), .ref (mA 5), .ref (mA 6), .ref (mA 7), .ref (mA 8), .ref (mA 9), .int jo, .ref (mA 10), .ref (mA 11)])), (mA 1, .inl (cZ, 16, .inl isb)), (mA 3, .inl (cI, 16, .inl pls)), (mA 4, .inl (cI, 60, .inl msg)), (mA 5, .inl (cI, 180, .inl at_)), (mA 6, .inl (cI, 40, .inl on)), (mA 7, .inl (cI, 40, .inl tw)), (mA 8, .inl (cZ, 40, .inl sa)), (mA 9, .inl (cI, 60, .inl le)), (mA 10, .inl (cZ, 3600, .inl bl))]) hD hS hA [0, 1, 2, 3, 4, 5, 6, 7, 8, 9] rfl
  refine va_calli (va_runV (As := []) (rest := []) ⟨hx, hb, hml, hown, hts⟩ (m_clashes l dC dI cI cJ cZ T F mA th jo isb pls msg at_ on tw sa le bl s.heap.size hw hpf hn hmt hmf) (cwV 0 hts (w0_goodV woX4_clash wd_598 wd_625 wd_596 wd_597 wd_5) rfl rfl rfl (by decide +kernel) ⟨Nat.le_of_ble_eq_true rfl, Nat.le_of_ble_eq_true rfl⟩) ⟨fun a U g mk q => by obtain ⟨q0, q1, qP, qK, qD⟩ := q; exact ⟨q0, q1, qP, va_K.moved (u := U) (U := U.calling g mk a) (Vm.Alike.refl U.vm) qK, qD⟩, va_recv hK hP (ci := 4) (q0 := 0) rfl rfl, fun U hU hW => ⟨rfl, by rw [hU], by rw [hU]; exact hPc, va_K.moved hW.alike hK, hDc.weaken (fun _ _ _ _ => trivial)⟩⟩ rfl rfl hl.1 rfl (lv_room (Nat.le_of_ble_eq_true rfl)) dX4_clash_1 ⟨Nat.zero_le _, Nat.zero_le _⟩) hS (fun q _ h => hFc q h) hFc (fun r1 u t8 H1 locs ht8 hvm hr1 hB hz1 hk1 hS => ?_)
  obtain ⟨le2_1, jo2_1, bl2_1⟩ := u
  obtain ⟨hP1, hK1, hD1⟩ := hB
  rw [ht8] at hP1
  try dsimp only at hr1
  obtain ⟨hP, hD⟩ := va_join (wr := []) (w1 := [(mA 0, .inr (4, [.int 0, .ref (mA 1), .ref (mA 2), .ref (mA 3), .int (nI (mx_n T)), .int (nI (mx_m F)), .ref (mA 4), .ref (mA 5), .ref (mA 6), .ref (mA 7), .ref (mA 8), .ref (mA 9), .int jo2_1, .ref (mA 10), .ref (mA 11)])), (mA 1, .inl (cZ, 16, .inl isb)), (mA 3, .inl (cI, 16, .inl pls)), (mA 4, .inl (cI, 60, .inl msg)), (mA 5, .inl (cI, 180, .inl at_)), (mA 6, .inl (cI, 40, .inl on)), (mA 7, .inl (cI, 40, .inl tw)), (mA 8, .inl (cZ, 40, .inl sa)), (mA 9, .inl (cI, 60, .inl le2_1)), (mA 10, .inl (cZ, 3600, .inl bl2_1))]) hP hD [0, 1, 2, 3, 4, 5, 6, 7, 8, 9] [] rfl rfl (by decide) (by decide) hk1 hFc hP1 hD1
  have hP := hP.sub (ws' := [(mA 0, .inr (4, [.int 0, .ref (mA 1), .ref (mA 2), .ref (mA 3), .int (nI (mx_n T)), .int (nI (mx_m F)), .ref (mA 4), .ref (mA 5), .ref (mA 6), .ref (mA 7), .ref (mA 8), .ref (mA 9), .int jo2_1, .ref (mA 10), .ref (mA 11)])), (mA 1, .inl (cZ, 16, .inl isb)), (mA 3, .inl (cI, 16, .inl pls)), (mA 4, .inl (cI, 60, .inl msg)), (mA 5, .inl (cI, 180, .inl at_)), (mA 6, .inl (cI, 40, .inl on)), (mA 7, .inl (cI, 40, .inl tw)), (mA 8, .inl (cZ, 40, .inl sa)), (mA 9, .inl (cI, 60, .inl le2_1)), (mA 10, .inl (cZ, 3600, .inl bl2_1))]) [0, 1, 2, 3, 4, 5, 6, 7, 8, 9] rfl
  have hD := hD.sub (ws' := [(mA 0, .inr (4, [.int 0, .ref (mA 1), .ref (mA 2), .ref (mA 3), .int (nI (mx_n T)), .int (nI (mx_m F)), .ref (mA 4), .ref (mA 5), .ref (mA 6), .ref (mA 7), .ref (mA 8), .ref (mA 9), .int jo2_1, .ref (mA 10), .ref (mA 11)])), (mA 1, .inl (cZ, 16, .inl isb)), (mA 3, .inl (cI, 16, .inl pls)), (mA 4, .inl (cI, 60, .inl msg)), (mA 5, .inl (cI, 180, .inl at_)), (mA 6, .inl (cI, 40, .inl on)), (mA 7, .inl (cI, 40, .inl tw)), (mA 8, .inl (cZ, 40, .inl sa)), (mA 9, .inl (cI, 60, .inl le2_1)), (mA 10, .inl (cZ, 3600, .inl bl2_1))]) [0, 1, 2, 3, 4, 5, 6, 7, 8, 9] (by decide) rfl
  generalize H1 = H at hP hS ⊢
  refine lv_if_ne (tgt := 11) hx hb dX4_clash_4 (by decide) (fun c1 => ?_) (fun c1 => ?_)
  · refine lv_aload_n hx hb dX4_clash_11 rfl (lv_at hl 0 rfl) ?_
    have hPc := hP.sub (ws' := [(mA 0, .inr (4, [.int 0, .ref (mA 1), .ref (mA 2), .ref (mA 3), .int (nI (mx_n T)), .int (nI (mx_m F)), .ref (mA 4), .ref (mA 5), .ref (mA 6), .ref (mA 7), .ref (mA 8), .ref (mA 9), .int jo2_1, .ref (mA 10), .ref (mA 11)]))]) [0] rfl
    refine vp_callSl (W.runV (As := []) (rest := []) ⟨hx, hb, hml, hown, hts⟩ (m_all l dC dI cI cJ cZ T F mA 0 jo2_1 hmf.1) (cwV 0 hts (w0_goodV woX4_clash wd_582 wd_579 wd_581 ws_15 wd_5) rfl rfl rfl (by decide +kernel) ⟨Nat.le_of_ble_eq_true rfl, Nat.le_of_ble_eq_true rfl⟩) ⟨fun a U g mk q => by obtain ⟨q0, qP, qK⟩ := q; exact ⟨q0, qP, va_K.moved (u := U) (U := U.calling g mk a) (Vm.Alike.refl U.vm) qK⟩, va_recv hK hP (ci := 4) (q0 := 0) rfl rfl, fun U hU hW => ⟨rfl, by rw [hU]; exact hPc, va_K.moved hW.alike hK⟩⟩ rfl rfl hl.1 rfl (lv_room (Nat.le_of_ble_eq_true rfl)) dX4_clash_12 ⟨Nat.zero_le _, Nat.zero_le _⟩) (fun al hal => ?_)
    have hal : jb al = al_S F := funext hal
    refine lv_lstore_n (lv' := [(1, .long al), (0, .ref (mA 0))]) hx hb dX4_clash_15 rfl hl (by decide) rfl (fun ls hl => ?_)
    refine lv_aload_n hx hb dX4_clash_16 rfl (lv_at hl 1 rfl) ?_
    refine va_get (D := (dC, dI)) (ci := 4) (v := .int (nI (mx_m F))) (C := RX4) (T := TX4) (N := 15) hx hb hts (fun w h => woX4_clash w (inX4 w h)) hown hK hP 0 rfl rfl 5 (by decide) (hts _ (woX4_clash _ wd_498)) (fun _ h9 => h9) rfl dX4_clash_17 ?_
    refine lv_iconst (v := 1) hx hb dX4_clash_20 (by decide) ?_
    refine lv_isub hx hb dX4_clash_21 ?_
    refine lv_istore_n (lv' := [(3, .int ((nI (mx_m F)) - 1)), (1, .long al), (0, .ref (mA 0))]) hx hb dX4_clash_22 rfl hl (by decide) rfl (fun ls hl => ?_)
    refine cl_l hx hb hown hts hK hw hpf hn hmt hmf hA hml (fun kept le9 jo9 bl9 H locs ls hI9 hP hD hS hl => ?_) (mx_m F) (mx_m F) (nI (mx_m F) - 1) al le2_1 jo2_1 bl2_1 _ _ _ rfl (Nat.le_refl _) rfl (by rw [hal, rk_K0]; rfl) hP hD hS (lv_sub hl [2, 1, 0] rfl)
    refine lv_lload_n hx hb dX4_clash_64 rfl (lv_at hl 0 rfl) ?_
    have hP9 := hP.sub (ws' := [(mA 0, .inr (4, [.int 0, .ref (mA 1), .ref (mA 2), .ref (mA 3), .int (nI (mx_n T)), .int (nI (mx_m F)), .ref (mA 4), .ref (mA 5), .ref (mA 6), .ref (mA 7), .ref (mA 8), .ref (mA 9), .int jo9, .ref (mA 10), .ref (mA 11)])), (mA 1, .inl (cZ, 16, .inl isb)), (mA 3, .inl (cI, 16, .inl pls)), (mA 4, .inl (cI, 60, .inl msg)), (mA 5, .inl (cI, 180, .inl at_)), (mA 6, .inl (cI, 40, .inl on)), (mA 7, .inl (cI, 40, .inl tw)), (mA 8, .inl (cZ, 40, .inl sa)), (mA 9, .inl (cI, 60, .inl le9)), (mA 10, .inl (cZ, 3600, .inl bl9))]) [0, 1, 2, 3, 4, 5, 6, 7, 8, 9] rfl
    have hD9 := hD.sub (ws' := [(mA 0, .inr (4, [.int 0, .ref (mA 1), .ref (mA 2), .ref (mA 3), .int (nI (mx_n T)), .int (nI (mx_m F)), .ref (mA 4), .ref (mA 5), .ref (mA 6), .ref (mA 7), .ref (mA 8), .ref (mA 9), .int jo9, .ref (mA 10), .ref (mA 11)])), (mA 1, .inl (cZ, 16, .inl isb)), (mA 3, .inl (cI, 16, .inl pls)), (mA 4, .inl (cI, 60, .inl msg)), (mA 5, .inl (cI, 180, .inl at_)), (mA 6, .inl (cI, 40, .inl on)), (mA 7, .inl (cI, 40, .inl tw)), (mA 8, .inl (cZ, 40, .inl sa)), (mA 9, .inl (cI, 60, .inl le9)), (mA 10, .inl (cZ, 3600, .inl bl9))]) [0, 1, 2, 3, 4, 5, 6, 7, 8, 9] (by decide) rfl
    exact W.lret (v := kept) hx hb hr (fun t9 ht9 hW9 => ⟨⟨kept, (le9, jo9, bl9), rfl, Or.inr ⟨zb_t hr1 c1, hI9⟩, by rw [ht9]; exact hP9, va_K.moved hW9.alike hK, hD9⟩, hS.F ht9⟩) hS.2.2 dX4_clash_65
  · refine lv_ldc2 (v := (-1)) hx hb hown (hts _ (woX4_clash _ wd_620)) dX4_clash_7 ?_
    have hP9 := hP.sub (ws' := [(mA 0, .inr (4, [.int 0, .ref (mA 1), .ref (mA 2), .ref (mA 3), .int (nI (mx_n T)), .int (nI (mx_m F)), .ref (mA 4), .ref (mA 5), .ref (mA 6), .ref (mA 7), .ref (mA 8), .ref (mA 9), .int jo2_1, .ref (mA 10), .ref (mA 11)])), (mA 1, .inl (cZ, 16, .inl isb)), (mA 3, .inl (cI, 16, .inl pls)), (mA 4, .inl (cI, 60, .inl msg)), (mA 5, .inl (cI, 180, .inl at_)), (mA 6, .inl (cI, 40, .inl on)), (mA 7, .inl (cI, 40, .inl tw)), (mA 8, .inl (cZ, 40, .inl sa)), (mA 9, .inl (cI, 60, .inl le2_1)), (mA 10, .inl (cZ, 3600, .inl bl2_1))]) [0, 1, 2, 3, 4, 5, 6, 7, 8, 9] rfl
    have hD9 := hD.sub (ws' := [(mA 0, .inr (4, [.int 0, .ref (mA 1), .ref (mA 2), .ref (mA 3), .int (nI (mx_n T)), .int (nI (mx_m F)), .ref (mA 4), .ref (mA 5), .ref (mA 6), .ref (mA 7), .ref (mA 8), .ref (mA 9), .int jo2_1, .ref (mA 10), .ref (mA 11)])), (mA 1, .inl (cZ, 16, .inl isb)), (mA 3, .inl (cI, 16, .inl pls)), (mA 4, .inl (cI, 60, .inl msg)), (mA 5, .inl (cI, 180, .inl at_)), (mA 6, .inl (cI, 40, .inl on)), (mA 7, .inl (cI, 40, .inl tw)), (mA 8, .inl (cZ, 40, .inl sa)), (mA 9, .inl (cI, 60, .inl le2_1)), (mA 10, .inl (cZ, 3600, .inl bl2_1))]) [0, 1, 2, 3, 4, 5, 6, 7, 8, 9] (by decide) rfl
    exact W.lret (v := (-1)) hx hb hr (fun t9 ht9 hW9 => ⟨⟨(-1), (le2_1, jo2_1, bl2_1), rfl, Or.inl ⟨rfl, zb_f hr1 c1⟩, by rw [ht9]; exact hP9, va_K.moved hW9.alike hK, hD9⟩, hS.F ht9⟩) hS.2.2 dX4_clash_10

set_option maxHeartbeats 4000000 in
set_option maxRecDepth 100000 in
theorem id_l {p : Program} {l : Launch} {e : Env} {s : State} {m : MethodId} {args : Array Value} {below : List Frame} {meth : Method} {c : Code} {Q : State → Prop} (hx : p.tables.exec = Jvm.exec) (hb : c.code = cX4_idle) (hown : s.vm.findClass RX4 = some m.cls) (hts : ∀ w ∈ wsX4_idle, w.before args s = true) {dC : Nat → ClassId} {dI : Nat → Nat → Nat} {cI cJ cZ : ClassId} (hK : va_K (dC, dI) vwCl [(cI, .int), (cJ, .long), (cZ, .boolean)] s) {T : mx_T} {F : mx_F} {mA : Nat → Nat} {isb : Nat → Int32} {pls : Nat → Int32} {msg : Nat → Int32} {at_ : Nat → Int32} {on : Nat → Int32} {tw : Nat → Int32} {sa : Nat → Int32} (hw : mx_wf T) (hpf : mx_pf T) (hn : mx_n T ≤ 60) (hmt : md_T T isb pls msg at_) (hmf : mx_m F ≤ 40 ∧ ∀ f, f < mx_m F → on f = nI (mx_lf F f) ∧ tw f = nI (mx_rt F f) ∧ mx_lf F f < mx_n T ∧ mx_rt F f < mx_n T ∧ sa f = (if mx_sm F f = true then 1 else 0)) {A : Nat → Prop} {H0 : Heap} (hA : ∀ q : Nat, H0.size ≤ q → A q) (hml : c.maxLocals = 4) (kk : ∀ (bits : Int64) (le : Nat → Int32) (jo : Int32) (H : Heap) (locs : List Loc) (ls : Array Slot), (id_I T F (mx_m F) bits) → va_P (dC, dI) vwCl [(mA 0, .inr (4, [.int 0, .ref (mA 1), .ref (mA 2), .ref (mA 3), .int (nI (mx_n T)), .int (nI (mx_m F)), .ref (mA 4), .ref (mA 5), .ref (mA 6), .ref (mA 7), .ref (mA 8), .ref (mA 9), .int jo, .ref (mA 10), .ref (mA 11)])), (mA 1, .inl (cZ, 16, .inl isb)), (mA 3, .inl (cI, 16, .inl pls)), (mA 4, .inl (cI, 60, .inl msg)), (mA 5, .inl (cI, 180, .inl at_)), (mA 6, .inl (cI, 40, .inl on)), (mA 7, .inl (cI, 40, .inl tw)), (mA 8, .inl (cZ, 40, .inl sa)), (mA 9, .inl (cI, 60, .inl le))] H → va_D A [(mA 0, .inr (4, [.int 0, .ref (mA 1), .ref (mA 2), .ref (mA 3), .int (nI (mx_n T)), .int (nI (mx_m F)), .ref (mA 4), .ref (mA 5), .ref (mA 6), .ref (mA 7), .ref (mA 8), .ref (mA 9), .int jo, .ref (mA 10), .ref (mA 11)])), (mA 1, .inl (cZ, 16, .inl isb)), (mA 3, .inl (cI, 16, .inl pls)), (mA 4, .inl (cI, 60, .inl msg)), (mA 5, .inl (cI, 180, .inl at_)), (mA 6, .inl (cI, 40, .inl on)), (mA 7, .inl (cI, 40, .inl tw)), (mA 8, .inl (cZ, 40, .inl sa)), (mA 9, .inl (cI, 60, .inl le))] → va_S A H0 H locs → lv_has ls 4 [(1, .long bits)] → W p l e ({ frames := 2, cells := 0, slots := 0, locals := 53 }) s m args below meth c H locs 0 0 Q (F0 m 74 ls [])) : ∀ (d : Nat) (f : Nat) (bits : Int64) (le : Nat → Int32) (jo : Int32) (H : Heap) (locs : List Loc) (ls : Array Slot), (f + d = mx_m F) → (id_I T F f bits) → va_P (dC, dI) vwCl [(mA 0, .inr (4, [.int 0, .ref (mA 1), .ref (mA 2), .ref (mA 3), .int (nI (mx_n T)), .int (nI (mx_m F)), .ref (mA 4), .ref (mA 5), .ref (mA 6), .ref (mA 7), .ref (mA 8), .ref (mA 9), .int jo, .ref (mA 10), .ref (mA 11)])), (mA 1, .inl (cZ, 16, .inl isb)), (mA 3, .inl (cI, 16, .inl pls)), (mA 4, .inl (cI, 60, .inl msg)), (mA 5, .inl (cI, 180, .inl at_)), (mA 6, .inl (cI, 40, .inl on)), (mA 7, .inl (cI, 40, .inl tw)), (mA 8, .inl (cZ, 40, .inl sa)), (mA 9, .inl (cI, 60, .inl le))] H → va_D A [(mA 0, .inr (4, [.int 0, .ref (mA 1), .ref (mA 2), .ref (mA 3), .int (nI (mx_n T)), .int (nI (mx_m F)), .ref (mA 4), .ref (mA 5), .ref (mA 6), .ref (mA 7), .ref (mA 8), .ref (mA 9), .int jo, .ref (mA 10), .ref (mA 11)])), (mA 1, .inl (cZ, 16, .inl isb)), (mA 3, .inl (cI, 16, .inl pls)), (mA 4, .inl (cI, 60, .inl msg)), (mA 5, .inl (cI, 180, .inl at_)), (mA 6, .inl (cI, 40, .inl on)), (mA 7, .inl (cI, 40, .inl tw)), (mA 8, .inl (cZ, 40, .inl sa)), (mA 9, .inl (cI, 60, .inl le))] → va_S A H0 H locs → lv_has ls 4 [(0, .ref (mA 0)), (1, .long bits), (3, .int (nI f))] → W p l e ({ frames := 2, cells := 0, slots := 0, locals := 53 }) s m args below meth c H locs 0 0 Q (F0 m 9 ls []) := by
  intro d
  induction d with
  | zero =>
    intro f bits le jo H locs ls hd hI hP hD hS hl
    have hm := hmf.1
    refine lv_iload_n hx hb dX4_idle_9 rfl (lv_at hl 2 rfl) ?_
    refine lv_aload_n hx hb dX4_idle_10 rfl (lv_at hl 0 rfl) ?_
    refine va_get (D := (dC, dI)) (ci := 4) (v := .int (nI (mx_m F))) (C := RX4) (T := TX4) (N := 15) hx hb hts (fun w h => woX4_idle w (inX4 w h)) hown hK hP 0 rfl rfl 5 (by decide) (hts _ (woX4_idle _ wd_498)) (fun _ h9 => h9) rfl dX4_idle_11 ?_
    refine lv_icmp_ge (tgt := 74) hx hb dX4_idle_14 (by decide) (fun c1 => ?_) (fun c1 => ?_)
    · have e : f = mx_m F := by omega
      rw [e] at hI
      refine kk bits le jo _ _ _ hI hP hD hS (lv_sub hl [1] rfl)
    · exact absurd (nI_le (a := mx_m F) (b := f) (by omega) (by omega)) c1
  | succ d ih =>
    intro f bits le jo H locs ls hd hI hP hD hS hl
    have hm := hmf.1
    have hfm : f < mx_m F := by omega
    obtain ⟨e1, e2, e3, e4, e5⟩ := hmf.2 f hfm
    refine lv_iload_n hx hb dX4_idle_9 rfl (lv_at hl 2 rfl) ?_
    refine lv_aload_n hx hb dX4_idle_10 rfl (lv_at hl 0 rfl) ?_
    refine va_get (D := (dC, dI)) (ci := 4) (v := .int (nI (mx_m F))) (C := RX4) (T := TX4) (N := 15) hx hb hts (fun w h => woX4_idle w (inX4 w h)) hown hK hP 0 rfl rfl 5 (by decide) (hts _ (woX4_idle _ wd_498)) (fun _ h9 => h9) rfl dX4_idle_11 ?_
    refine lv_icmp_ge (tgt := 74) hx hb dX4_idle_14 (by decide) (fun c1 => ?_) (fun c1 => ?_)
    · exact absurd c1 (nI_ge hfm (by omega))
    · refine lv_aload_n hx hb dX4_idle_17 rfl (lv_at hl 0 rfl) ?_
      refine lv_lconst (v := 1) hx hb dX4_idle_18 (by decide) ?_
      refine lv_iload_n hx hb dX4_idle_19 rfl (lv_at hl 2 rfl) ?_
      refine lv_lshl (v := (1 : Int64) <<< ((nI f).toInt64 &&& 63)) hx hb dX4_idle_20 rfl ?_
      refine lv_lconst (v := 1) hx hb dX4_idle_21 (by decide) ?_
      refine lv_lsub hx hb dX4_idle_22 ?_
      refine lv_topl (fun wv_1 ewv_1 => ?_)
      have hwv : jb wv_1 = fun i => decide (i < f) := by rw [ewv_1]; exact funext (fun i => jb_mask (by omega) i)
      refine lv_iconst (v := 0) hx hb dX4_idle_23 (by decide) ?_
      refine lv_iconst (v := 0) hx hb dX4_idle_24 (by decide) ?_
      refine W.eq (g2 := F0 m 25 ls [.int (nI 0), .int (nI 0), .long wv_1, .ref (mA 0)]) rfl ?_
      have hPc := hP.sub (ws' := [(mA 0, .inr (4, [.int 0, .ref (mA 1), .ref (mA 2), .ref (mA 3), .int (nI (mx_n T)), .int (nI (mx_m F)), .ref (mA 4), .ref (mA 5), .ref (mA 6), .ref (mA 7), .ref (mA 8), .ref (mA 9), .int jo, .ref (mA 10), .ref (mA 11)])), (mA 1, .inl (cZ, 16, .inl isb)), (mA 3, .inl (cI, 16, .inl pls)), (mA 4, .inl (cI, 60, .inl msg)), (mA 5, .inl (cI, 180, .inl at_)), (mA 6, .inl (cI, 40, .inl on)), (mA 7, .inl (cI, 40, .inl tw)), (mA 8, .inl (cZ, 40, .inl sa)), (mA 9, .inl (cI, 60, .inl le))]) [0, 1, 2, 3, 4, 5, 6, 7, 8] rfl
      have hDc := hD.sub (ws' := [(mA 0, .inr (4, [.int 0, .ref (mA 1), .ref (mA 2), .ref (mA 3), .int (nI (mx_n T)), .int (nI (mx_m F)), .ref (mA 4), .ref (mA 5), .ref (mA 6), .ref (mA 7), .ref (mA 8), .ref (mA 9), .int jo, .ref (mA 10), .ref (mA 11)])), (mA 1, .inl (cZ, 16, .inl isb)), (mA 3, .inl (cI, 16, .inl pls)), (mA 4, .inl (cI, 60, .inl msg)), (mA 5, .inl (cI, 180, .inl at_)), (mA 6, .inl (cI, 40, .inl on)), (mA 7, .inl (cI, 40, .inl tw)), (mA 8, .inl (cZ, 40, .inl sa)), (mA 9, .inl (cI, 60, .inl le))]) [0, 1, 2, 3, 4, 5, 6, 7, 8] (by decide) rfl
      have hFc := va_free (wc := [(mA 0, .inr (4, [.int 0, .ref (mA 1), .ref (mA 2), .ref (mA 3), .int (nI (mx_n T)), .int (nI (mx_m F)), .ref (mA 4), .ref (mA 5), .ref (mA 6), .ref (mA 7), .ref (mA 8), .ref (mA 9), .int jo, .ref (mA 10), .ref (mA 11)])), (mA 1, .inl (cZ, 16, .inl isb)), (mA 3, .inl (cI, 16, .inl pls)), (mA 4, .inl (cI, 60, .inl msg)), (mA 5, .inl (cI, 180, .inl at_)), (mA 6, .inl (cI, 40, .inl on)), (mA 7, .inl (cI, 40, .inl tw)), (mA 8, .inl (cZ, 40, .inl sa)), (mA 9, .inl (cI, 60, .inl le))]) hD hS hA [0, 1, 2, 3, 4, 5, 6, 7, 8] rfl
      refine va_callv (va_runV (As := [.long wv_1, .int (nI 0), .int (nI 0)]) (rest := []) ⟨hx, hb, hml, hown, hts⟩ (m_joinAll l dC dI cI cJ cZ T F mA 0 jo isb pls msg at_ on tw sa le wv_1 0 0 H.size hw hpf hn hmt hmf (fun q => ⟨q, q⟩)) (cwV 3 hts (w0_goodV woX4_idle wd_586 wd_583 wd_585 ws_16 wd_5) rfl rfl rfl (by decide +kernel) ⟨Nat.le_of_ble_eq_true rfl, Nat.le_of_ble_eq_true rfl⟩) ⟨fun a U g mk q => by obtain ⟨q0, q1, qP, qK, qD⟩ := q; exact ⟨q0, q1, qP, va_K.moved (u := U) (U := U.calling g mk a) (Vm.Alike.refl U.vm) qK, qD⟩, va_recv hK hP (ci := 4) (q0 := 0) rfl rfl, fun U hU hW => ⟨rfl, by rw [hU], by rw [hU]; exact hPc, va_K.moved hW.alike hK, hDc.weaken (fun _ _ _ _ => trivial)⟩⟩ rfl rfl hl.1 rfl (lv_room (Nat.le_of_ble_eq_true rfl)) dX4_idle_25 ⟨Nat.zero_le _, Nat.zero_le _⟩) hS (fun q _ h => hFc q h) hFc (fun u t8 H1 locs ht8 hvm hj3 hB hz1 hk1 hS => ?_)
      obtain ⟨le2_2, jo2_2⟩ := u
      obtain ⟨hP1, hK1, hD1⟩ := hB
      rw [ht8] at hP1
      try dsimp only at hj3
      obtain ⟨hP, hD⟩ := va_join (wr := []) (w1 := [(mA 0, .inr (4, [.int 0, .ref (mA 1), .ref (mA 2), .ref (mA 3), .int (nI (mx_n T)), .int (nI (mx_m F)), .ref (mA 4), .ref (mA 5), .ref (mA 6), .ref (mA 7), .ref (mA 8), .ref (mA 9), .int jo2_2, .ref (mA 10), .ref (mA 11)])), (mA 1, .inl (cZ, 16, .inl isb)), (mA 3, .inl (cI, 16, .inl pls)), (mA 4, .inl (cI, 60, .inl msg)), (mA 5, .inl (cI, 180, .inl at_)), (mA 6, .inl (cI, 40, .inl on)), (mA 7, .inl (cI, 40, .inl tw)), (mA 8, .inl (cZ, 40, .inl sa)), (mA 9, .inl (cI, 60, .inl le2_2))]) hP hD [0, 1, 2, 3, 4, 5, 6, 7, 8] [] rfl rfl (by decide) (by decide) hk1 hFc hP1 hD1
      have hP := hP.sub (ws' := [(mA 0, .inr (4, [.int 0, .ref (mA 1), .ref (mA 2), .ref (mA 3), .int (nI (mx_n T)), .int (nI (mx_m F)), .ref (mA 4), .ref (mA 5), .ref (mA 6), .ref (mA 7), .ref (mA 8), .ref (mA 9), .int jo2_2, .ref (mA 10), .ref (mA 11)])), (mA 1, .inl (cZ, 16, .inl isb)), (mA 3, .inl (cI, 16, .inl pls)), (mA 4, .inl (cI, 60, .inl msg)), (mA 5, .inl (cI, 180, .inl at_)), (mA 6, .inl (cI, 40, .inl on)), (mA 7, .inl (cI, 40, .inl tw)), (mA 8, .inl (cZ, 40, .inl sa)), (mA 9, .inl (cI, 60, .inl le2_2))]) [0, 1, 2, 3, 4, 5, 6, 7, 8] rfl
      have hD := hD.sub (ws' := [(mA 0, .inr (4, [.int 0, .ref (mA 1), .ref (mA 2), .ref (mA 3), .int (nI (mx_n T)), .int (nI (mx_m F)), .ref (mA 4), .ref (mA 5), .ref (mA 6), .ref (mA 7), .ref (mA 8), .ref (mA 9), .int jo2_2, .ref (mA 10), .ref (mA 11)])), (mA 1, .inl (cZ, 16, .inl isb)), (mA 3, .inl (cI, 16, .inl pls)), (mA 4, .inl (cI, 60, .inl msg)), (mA 5, .inl (cI, 180, .inl at_)), (mA 6, .inl (cI, 40, .inl on)), (mA 7, .inl (cI, 40, .inl tw)), (mA 8, .inl (cZ, 40, .inl sa)), (mA 9, .inl (cI, 60, .inl le2_2))]) [0, 1, 2, 3, 4, 5, 6, 7, 8] (by decide) rfl
      generalize H1 = H at hP hS ⊢
      obtain ⟨nn, g1, g2⟩ := hj3
      have g1 : md_L T nn le2_2 := g1
      have g3 := ja_same (fun q => q) g2
      rw [hwv] at g3
      have g4 := g3.to (id_E (by omega))
      have n1 := g1.2 _ e3
      have n2 := g1.2 _ e4
      have g5 := g4.one e3 e4
      refine lv_aload_n hx hb dX4_idle_28 rfl (lv_at hl 0 rfl) ?_
      refine va_get (D := (dC, dI)) (ci := 4) (v := .ref (mA 8)) (C := RX4) (T := TX4) (N := 15) hx hb hts (fun w h => woX4_idle w (inX4 w h)) hown hK hP 0 rfl rfl 10 (by decide) (hts _ (woX4_idle _ wd_503)) (fun _ h9 => h9) rfl dX4_idle_29 ?_
      refine lv_iload_n hx hb dX4_idle_32 rfl (lv_at hl 2 rfl) ?_
      refine va_zald hx hb hK hP 7 2 rfl rfl (vp_in_nI (by omega) (by omega)) dX4_idle_33 ?_
      rw [show (nI f).toNatClampNeg = f from nI_clamp (by omega)]
      rw [e5]
      refine lv_if_eq (tgt := 68) hx hb dX4_idle_34 (by decide) (fun c2 => ?_) (fun c2 => ?_)
      · obtain ⟨y_3, ey_3⟩ : ∃ y9 : Int32, y9 = (nI f) + 1 := ⟨_, rfl⟩
        refine lv_iinc (v := y_3) (lv' := [(3, .int y_3), (0, .ref (mA 0)), (1, .long bits)]) hx hb dX4_idle_68 hl (k := 2) rfl (by rw [ey_3]; rfl) (by decide) rfl (fun ls hl => ?_)
        refine lv_goto (tgt := 9) hx hb dX4_idle_71 (by decide) ?_
        rw [ey_3, nI_1] at hl
        refine ih (f + 1) bits le2_2 jo2_2 _ _ _ (by omega) (id_no hI (fun q => by rw [if_pos q.1] at c2; exact absurd c2 (by decide))) hP hD hS (lv_sub hl [1, 2, 0] rfl)
      · have hs : mx_sm F f = true := Classical.byContradiction fun z => c2 (if_neg z)
        refine lv_aload_n hx hb dX4_idle_37 rfl (lv_at hl 0 rfl) ?_
        refine va_get (D := (dC, dI)) (ci := 4) (v := .ref (mA 9)) (C := RX4) (T := TX4) (N := 15) hx hb hts (fun w h => woX4_idle w (inX4 w h)) hown hK hP 0 rfl rfl 11 (by decide) (hts _ (woX4_idle _ wd_504)) (fun _ h9 => h9) rfl dX4_idle_38 ?_
        refine lv_aload_n hx hb dX4_idle_41 rfl (lv_at hl 0 rfl) ?_
        refine va_get (D := (dC, dI)) (ci := 4) (v := .ref (mA 6)) (C := RX4) (T := TX4) (N := 15) hx hb hts (fun w h => woX4_idle w (inX4 w h)) hown hK hP 0 rfl rfl 8 (by decide) (hts _ (woX4_idle _ wd_501)) (fun _ h9 => h9) rfl dX4_idle_42 ?_
        refine lv_iload_n hx hb dX4_idle_45 rfl (lv_at hl 2 rfl) ?_
        refine va_iald hx hb hK hP 5 0 rfl rfl (vp_in_nI (by omega) (by omega)) dX4_idle_46 ?_
        rw [show (nI f).toNatClampNeg = f from nI_clamp (by omega)]
        rw [e1]
        refine va_iald hx hb hK hP 8 0 rfl rfl (vp_in_nI (by omega) (by omega)) dX4_idle_47 ?_
        rw [show (nI (mx_lf F f)).toNatClampNeg = (mx_lf F f) from nI_clamp (by omega)]
        rw [g1.1 _ e3]
        refine lv_aload_n hx hb dX4_idle_48 rfl (lv_at hl 0 rfl) ?_
        refine va_get (D := (dC, dI)) (ci := 4) (v := .ref (mA 9)) (C := RX4) (T := TX4) (N := 15) hx hb hts (fun w h => woX4_idle w (inX4 w h)) hown hK hP 0 rfl rfl 11 (by decide) (hts _ (woX4_idle _ wd_504)) (fun _ h9 => h9) rfl dX4_idle_49 ?_
        refine lv_aload_n hx hb dX4_idle_52 rfl (lv_at hl 0 rfl) ?_
        refine va_get (D := (dC, dI)) (ci := 4) (v := .ref (mA 7)) (C := RX4) (T := TX4) (N := 15) hx hb hts (fun w h => woX4_idle w (inX4 w h)) hown hK hP 0 rfl rfl 9 (by decide) (hts _ (woX4_idle _ wd_502)) (fun _ h9 => h9) rfl dX4_idle_53 ?_
        refine lv_iload_n hx hb dX4_idle_56 rfl (lv_at hl 2 rfl) ?_
        refine va_iald hx hb hK hP 6 0 rfl rfl (vp_in_nI (by omega) (by omega)) dX4_idle_57 ?_
        rw [show (nI f).toNatClampNeg = f from nI_clamp (by omega)]
        rw [e2]
        refine va_iald hx hb hK hP 8 0 rfl rfl (vp_in_nI (by omega) (by omega)) dX4_idle_58 ?_
        rw [show (nI (mx_rt F f)).toNatClampNeg = (mx_rt F f) from nI_clamp (by omega)]
        rw [g1.1 _ e4]
        refine lv_icmp_ne (tgt := 68) hx hb dX4_idle_59 (by decide) (fun c3 => ?_) (fun c3 => ?_)
        · obtain ⟨y_4, ey_4⟩ : ∃ y9 : Int32, y9 = (nI f) + 1 := ⟨_, rfl⟩
          refine lv_iinc (v := y_4) (lv' := [(3, .int y_4), (0, .ref (mA 0)), (1, .long bits)]) hx hb dX4_idle_68 hl (k := 2) rfl (by rw [ey_4]; rfl) (by decide) rfl (fun ls hl => ?_)
          refine lv_goto (tgt := 9) hx hb dX4_idle_71 (by decide) ?_
          rw [ey_4, nI_1] at hl
          refine ih (f + 1) bits le2_2 jo2_2 _ _ _ (by omega) (id_no hI (fun q => c3 (by rw [g5.mpr q.2]))) hP hD hS (lv_sub hl [1, 2, 0] rfl)
        · refine lv_lload_n hx hb dX4_idle_62 rfl (lv_at hl 1 rfl) ?_
          refine lv_lconst (v := 1) hx hb dX4_idle_63 (by decide) ?_
          refine lv_iload_n hx hb dX4_idle_64 rfl (lv_at hl 2 rfl) ?_
          refine lv_lshl (v := (1 : Int64) <<< ((nI f).toInt64 &&& 63)) hx hb dX4_idle_65 rfl ?_
          refine lv_lor hx hb dX4_idle_66 ?_
          refine lv_topl (fun kq_5 ekq_5 => ?_)
          refine lv_lstore_n (lv' := [(1, .long kq_5), (0, .ref (mA 0)), (3, .int (nI f))]) hx hb dX4_idle_67 rfl hl (by decide) rfl (fun ls hl => ?_)
          obtain ⟨y_6, ey_6⟩ : ∃ y9 : Int32, y9 = (nI f) + 1 := ⟨_, rfl⟩
          refine lv_iinc (v := y_6) (lv' := [(3, .int y_6), (1, .long kq_5), (0, .ref (mA 0))]) hx hb dX4_idle_68 hl (k := 2) rfl (by rw [ey_6]; rfl) (by decide) rfl (fun ls hl => ?_)
          refine lv_goto (tgt := 9) hx hb dX4_idle_71 (by decide) ?_
          rw [ey_6, nI_1] at hl
          refine ih (f + 1) kq_5 le2_2 jo2_2 _ _ _ (by omega) (by rw [ekq_5]; exact id_yes (by omega) hI ⟨hs, g5.mp ((nI_eq (by omega) (by omega)).mp c3)⟩) hP hD hS (lv_sub hl [2, 1, 0] rfl)

set_option maxHeartbeats 4000000 in
set_option maxRecDepth 100000 in
/-- the reference: idle -/
theorem m_idle (l : Launch) (dC : Nat → ClassId) (dI : Nat → Nat → Nat) (cI cJ cZ : ClassId) (T : mx_T) (F : mx_F) (mA : Nat → Nat) (th : Int32) (jo : Int32) (isb : Nat → Int32) (pls : Nat → Int32) (msg : Nat → Int32) (at_ : Nat → Int32) (on : Nat → Int32) (tw : Nat → Int32) (sa : Nat → Int32) (le : Nat → Int32) (sz : Nat) (hw : mx_wf T) (hpf : mx_pf T) (hn : mx_n T ≤ 60) (hmt : md_T T isb pls msg at_) (hmf : mx_m F ≤ 40 ∧ ∀ f, f < mx_m F → on f = nI (mx_lf F f) ∧ tw f = nI (mx_rt F f) ∧ mx_lf F f < mx_n T ∧ mx_rt F f < mx_n T ∧ sa f = (if mx_sm F f = true then 1 else 0)) : Met l yX4_idle wsX4_idle ({ frames := 2, cells := 0, slots := 0, locals := 53 }) (va_Pc [.ref (mA 0)] (fun U => U.heap.size = sz ∧ va_P (dC, dI) vwCl [(mA 0, .inr (4, [.int th, .ref (mA 1), .ref (mA 2), .ref (mA 3), .int (nI (mx_n T)), .int (nI (mx_m F)), .ref (mA 4), .ref (mA 5), .ref (mA 6), .ref (mA 7), .ref (mA 8), .ref (mA 9), .int jo, .ref (mA 10), .ref (mA 11)])), (mA 1, .inl (cZ, 16, .inl isb)), (mA 3, .inl (cI, 16, .inl pls)), (mA 4, .inl (cI, 60, .inl msg)), (mA 5, .inl (cI, 180, .inl at_)), (mA 6, .inl (cI, 40, .inl on)), (mA 7, .inl (cI, 40, .inl tw)), (mA 8, .inl (cZ, 40, .inl sa)), (mA 9, .inl (cI, 60, .inl le))] U.heap ∧ va_K (dC, dI) vwCl [(cI, .int), (cJ, .long), (cZ, .boolean)] U ∧ va_D (fun _ => True) [(mA 0, .inr (4, [.int th, .ref (mA 1), .ref (mA 2), .ref (mA 3), .int (nI (mx_n T)), .int (nI (mx_m F)), .ref (mA 4), .ref (mA 5), .ref (mA 6), .ref (mA 7), .ref (mA 8), .ref (mA 9), .int jo, .ref (mA 10), .ref (mA 11)])), (mA 1, .inl (cZ, 16, .inl isb)), (mA 3, .inl (cI, 16, .inl pls)), (mA 4, .inl (cI, 60, .inl msg)), (mA 5, .inl (cI, 180, .inl at_)), (mA 6, .inl (cI, 40, .inl on)), (mA 7, .inl (cI, 40, .inl tw)), (mA 8, .inl (cZ, 40, .inl sa)), (mA 9, .inl (cI, 60, .inl le))])) (va_Ql (fun r u => id_P T F r) (fun (u : (Nat → Int32) × Int32) t7 => match u with | (le2, jo2) => va_P (dC, dI) vwCl [(mA 0, .inr (4, [.int 0, .ref (mA 1), .ref (mA 2), .ref (mA 3), .int (nI (mx_n T)), .int (nI (mx_m F)), .ref (mA 4), .ref (mA 5), .ref (mA 6), .ref (mA 7), .ref (mA 8), .ref (mA 9), .int jo2, .ref (mA 10), .ref (mA 11)])), (mA 1, .inl (cZ, 16, .inl isb)), (mA 3, .inl (cI, 16, .inl pls)), (mA 4, .inl (cI, 60, .inl msg)), (mA 5, .inl (cI, 180, .inl at_)), (mA 6, .inl (cI, 40, .inl on)), (mA 7, .inl (cI, 40, .inl tw)), (mA 8, .inl (cZ, 40, .inl sa)), (mA 9, .inl (cI, 60, .inl le2))] t7.heap ∧ va_K (dC, dI) vwCl [(cI, .int), (cJ, .long), (cZ, .boolean)] t7 ∧ va_D (va_A [(mA 0, .inr (4, [.int th, .ref (mA 1), .ref (mA 2), .ref (mA 3), .int (nI (mx_n T)), .int (nI (mx_m F)), .ref (mA 4), .ref (mA 5), .ref (mA 6), .ref (mA 7), .ref (mA 8), .ref (mA 9), .int jo, .ref (mA 10), .ref (mA 11)])), (mA 1, .inl (cZ, 16, .inl isb)), (mA 3, .inl (cI, 16, .inl pls)), (mA 4, .inl (cI, 60, .inl msg)), (mA 5, .inl (cI, 180, .inl at_)), (mA 6, .inl (cI, 40, .inl on)), (mA 7, .inl (cI, 40, .inl tw)), (mA 8, .inl (cZ, 40, .inl sa)), (mA 9, .inl (cI, 60, .inl le))] sz) [(mA 0, .inr (4, [.int 0, .ref (mA 1), .ref (mA 2), .ref (mA 3), .int (nI (mx_n T)), .int (nI (mx_m F)), .ref (mA 4), .ref (mA 5), .ref (mA 6), .ref (mA 7), .ref (mA 8), .ref (mA 9), .int jo2, .ref (mA 10), .ref (mA 11)])), (mA 1, .inl (cZ, 16, .inl isb)), (mA 3, .inl (cI, 16, .inl pls)), (mA 4, .inl (cI, 60, .inl msg)), (mA 5, .inl (cI, 180, .inl at_)), (mA 6, .inl (cI, 40, .inl on)), (mA 7, .inl (cI, 40, .inl tw)), (mA 8, .inl (cZ, 40, .inl sa)), (mA 9, .inl (cI, 60, .inl le2))]) (va_A [(mA 0, .inr (4, [.int th, .ref (mA 1), .ref (mA 2), .ref (mA 3), .int (nI (mx_n T)), .int (nI (mx_m F)), .ref (mA 4), .ref (mA 5), .ref (mA 6), .ref (mA 7), .ref (mA 8), .ref (mA 9), .int jo, .ref (mA 10), .ref (mA 11)])), (mA 1, .inl (cZ, 16, .inl isb)), (mA 3, .inl (cI, 16, .inl pls)), (mA 4, .inl (cI, 60, .inl msg)), (mA 5, .inl (cI, 180, .inl at_)), (mA 6, .inl (cI, 40, .inl on)), (mA 7, .inl (cI, 40, .inl tw)), (mA 8, .inl (cZ, 40, .inl sa)), (mA 9, .inl (cI, 60, .inl le))] sz)) 0 0 (va_A [(mA 0, .inr (4, [.int th, .ref (mA 1), .ref (mA 2), .ref (mA 3), .int (nI (mx_n T)), .int (nI (mx_m F)), .ref (mA 4), .ref (mA 5), .ref (mA 6), .ref (mA 7), .ref (mA 8), .ref (mA 9), .int jo, .ref (mA 10), .ref (mA 11)])), (mA 1, .inl (cZ, 16, .inl isb)), (mA 3, .inl (cI, 16, .inl pls)), (mA 4, .inl (cI, 60, .inl msg)), (mA 5, .inl (cI, 180, .inl at_)), (mA 6, .inl (cI, 40, .inl on)), (mA 7, .inl (cI, 40, .inl tw)), (mA 8, .inl (cZ, 40, .inl sa)), (mA 9, .inl (cI, 60, .inl le))] sz) := by
  refine Met.ofW (cc := cX4_idle) (maxL := 4) (ret := (some .long)) (by decide) rfl ?_
  intro p e s m args below meth c s₁ B hml hv
  obtain ⟨rfl, hsz, hP, hK, hD0⟩ := hv
  have hx := B.exec
  have hb := B.bytes
  have hr := B.returns
  have hts := atoms_spec (ws := wsX4_idle) B.pre
  have hown : s.vm.findClass RX4 = some m.cls := findClass_of_methodNamed B.named
  have hlocks := B.notSynchronized
  subst hsz
  have hD := hD0.self (sz := s.heap.size)
  generalize hAe : va_A [(mA 0, .inr (4, [.int th, .ref (mA 1), .ref (mA 2), .ref (mA 3), .int (nI (mx_n T)), .int (nI (mx_m F)), .ref (mA 4), .ref (mA 5), .ref (mA 6), .ref (mA 7), .ref (mA 8), .ref (mA 9), .int jo, .ref (mA 10), .ref (mA 11)])), (mA 1, .inl (cZ, 16, .inl isb)), (mA 3, .inl (cI, 16, .inl pls)), (mA 4, .inl (cI, 60, .inl msg)), (mA 5, .inl (cI, 180, .inl at_)), (mA 6, .inl (cI, 40, .inl on)), (mA 7, .inl (cI, 40, .inl tw)), (mA 8, .inl (cZ, 40, .inl sa)), (mA 9, .inl (cI, 60, .inl le))] s.heap.size = A at hD ⊢
  have hA : ∀ q : Nat, s.heap.size ≤ q → A q := fun q h => by rw [← hAe]; exact Or.inr h
  have hS : va_S A s.heap s.heap [] := va_S.rf
  have hP : va_P (dC, dI) vwCl [(mA 0, .inr (4, [.int th, .ref (mA 1), .ref (mA 2), .ref (mA 3), .int (nI (mx_n T)), .int (nI (mx_m F)), .ref (mA 4), .ref (mA 5), .ref (mA 6), .ref (mA 7), .ref (mA 8), .ref (mA 9), .int jo, .ref (mA 10), .ref (mA 11)])), (mA 1, .inl (cZ, 16, .inl isb)), (mA 3, .inl (cI, 16, .inl pls)), (mA 4, .inl (cI, 60, .inl msg)), (mA 5, .inl (cI, 180, .inl at_)), (mA 6, .inl (cI, 40, .inl on)), (mA 7, .inl (cI, 40, .inl tw)), (mA 8, .inl (cZ, 40, .inl sa)), (mA 9, .inl (cI, 60, .inl le))] s.heap := hP
  have hl := lv_entry ([.ref (mA 0)]) (n := 4) (Nat.le_of_ble_eq_true rfl)
  rw [lg_entry_eq]
  generalize (lg_sl ([.ref (mA 0)]) ++ List.replicate (4 - (lg_sl ([.ref (mA 0)])).length) Slot.unset).toArray = ls at hl ⊢
  have hl : lv_has ls 4 [(0, .ref (mA 0))] := hl
  refine lv_aload_n hx hb dX4_idle_0 rfl (lv_at hl 0 rfl) ?_
  refine lv_iconst (v := 0) hx hb dX4_idle_1 (by decide) ?_
  refine va_put (D := (dC, dI)) (ci := 4) (v := .int 0) (ty := .int) (C := RX4) (T := TX4) (N := 15) hx hb hts (fun w h => woX4_idle w (inX4 w h)) tyX4 tyX4_ok nmX4 hown hK hP hD hS 0 rfl rfl 0 (by decide) (hts _ (woX4_idle _ wd_493)) (fun _ h9 => h9) rfl (by decide +kernel) rfl rfl (Nat.le_of_ble_eq_true rfl) dX4_idle_2 (fun H locs hP hD hS => ?_)
  have hP : va_P (dC, dI) vwCl [(mA 0, .inr (4, [.int 0, .ref (mA 1), .ref (mA 2), .ref (mA 3), .int (nI (mx_n T)), .int (nI (mx_m F)), .ref (mA 4), .ref (mA 5), .ref (mA 6), .ref (mA 7), .ref (mA 8), .ref (mA 9), .int jo, .ref (mA 10), .ref (mA 11)])), (mA 1, .inl (cZ, 16, .inl isb)), (mA 3, .inl (cI, 16, .inl pls)), (mA 4, .inl (cI, 60, .inl msg)), (mA 5, .inl (cI, 180, .inl at_)), (mA 6, .inl (cI, 40, .inl on)), (mA 7, .inl (cI, 40, .inl tw)), (mA 8, .inl (cZ, 40, .inl sa)), (mA 9, .inl (cI, 60, .inl le))] H := hP
  have hD : va_D A [(mA 0, .inr (4, [.int 0, .ref (mA 1), .ref (mA 2), .ref (mA 3), .int (nI (mx_n T)), .int (nI (mx_m F)), .ref (mA 4), .ref (mA 5), .ref (mA 6), .ref (mA 7), .ref (mA 8), .ref (mA 9), .int jo, .ref (mA 10), .ref (mA 11)])), (mA 1, .inl (cZ, 16, .inl isb)), (mA 3, .inl (cI, 16, .inl pls)), (mA 4, .inl (cI, 60, .inl msg)), (mA 5, .inl (cI, 180, .inl at_)), (mA 6, .inl (cI, 40, .inl on)), (mA 7, .inl (cI, 40, .inl tw)), (mA 8, .inl (cZ, 40, .inl sa)), (mA 9, .inl (cI, 60, .inl le))] := hD
  refine lv_lconst (v := 0) hx hb dX4_idle_5 (by decide) ?_
  refine lv_lstore_n (lv' := [(1, .long 0), (0, .ref (mA 0))]) hx hb dX4_idle_6 rfl hl (by decide) rfl (fun ls hl => ?_)
  refine lv_iconst (v := 0) hx hb dX4_idle_7 (by decide) ?_
  refine lv_istore_n (lv' := [(3, .int 0), (1, .long 0), (0, .ref (mA 0))]) hx hb dX4_idle_8 rfl hl (by decide) rfl (fun ls hl => ?_)
  refine id_l hx hb hown hts hK hw hpf hn hmt hmf hA hml (fun bits le9 jo9 H locs ls hI9 hP hD hS hl => ?_) (mx_m F) 0 0 le jo _ _ _ (by omega) (fun f => by rw [jb_0]; exact ⟨fun q => (by cases q), fun q => absurd q.1 (Nat.not_lt_zero f)⟩) hP hD hS (lv_sub hl [2, 1, 0] rfl)
  refine lv_lload_n hx hb dX4_idle_74 rfl (lv_at hl 0 rfl) ?_
  have hP9 := hP.sub (ws' := [(mA 0, .inr (4, [.int 0, .ref (mA 1), .ref (mA 2), .ref (mA 3), .int (nI (mx_n T)), .int (nI (mx_m F)), .ref (mA 4), .ref (mA 5), .ref (mA 6), .ref (mA 7), .ref (mA 8), .ref (mA 9), .int jo9, .ref (mA 10), .ref (mA 11)])), (mA 1, .inl (cZ, 16, .inl isb)), (mA 3, .inl (cI, 16, .inl pls)), (mA 4, .inl (cI, 60, .inl msg)), (mA 5, .inl (cI, 180, .inl at_)), (mA 6, .inl (cI, 40, .inl on)), (mA 7, .inl (cI, 40, .inl tw)), (mA 8, .inl (cZ, 40, .inl sa)), (mA 9, .inl (cI, 60, .inl le9))]) [0, 1, 2, 3, 4, 5, 6, 7, 8] rfl
  have hD9 := hD.sub (ws' := [(mA 0, .inr (4, [.int 0, .ref (mA 1), .ref (mA 2), .ref (mA 3), .int (nI (mx_n T)), .int (nI (mx_m F)), .ref (mA 4), .ref (mA 5), .ref (mA 6), .ref (mA 7), .ref (mA 8), .ref (mA 9), .int jo9, .ref (mA 10), .ref (mA 11)])), (mA 1, .inl (cZ, 16, .inl isb)), (mA 3, .inl (cI, 16, .inl pls)), (mA 4, .inl (cI, 60, .inl msg)), (mA 5, .inl (cI, 180, .inl at_)), (mA 6, .inl (cI, 40, .inl on)), (mA 7, .inl (cI, 40, .inl tw)), (mA 8, .inl (cZ, 40, .inl sa)), (mA 9, .inl (cI, 60, .inl le9))]) [0, 1, 2, 3, 4, 5, 6, 7, 8] (by decide) rfl
  exact W.lret (v := bits) hx hb hr (fun t9 ht9 hW9 => ⟨⟨bits, (le9, jo9), rfl, hI9, by rw [ht9]; exact hP9, va_K.moved hW9.alike hK, hD9⟩, hS.F ht9⟩) hS.2.2 dX4_idle_75
