/-! SIGNS AND TERMS: what builder, term, part, about answer -/
def us_P (T : mx_T) (s : Nat) : Prop := ∃ t, t < mx_n T ∧ mx_sg T t = s
noncomputable def us_b (T : mx_T) (s : Nat) : Bool := @decide (us_P T s) (Classical.propDecidable _)
theorem us_bt {T : mx_T} {s : Nat} : us_b T s = true ↔ us_P T s := by unfold us_b; exact @decide_eq_true_iff _ (Classical.propDecidable _)
noncomputable def su_b (T : mx_T) (t u : Nat) : Bool := @decide (mx_sub (mx_pl T) t u) (Classical.propDecidable _)
theorem su_bt {T : mx_T} {t u : Nat} : su_b T t u = true ↔ mx_sub (mx_pl T) t u := by unfold su_b; exact @decide_eq_true_iff _ (Classical.propDecidable _)
def md_U (T : mx_T) (isu : Nat → Int32) : Prop := ∀ s, s < 16 → zb (isu s) (us_P T s)
def md_B (bs : Nat → Bool) (isb : Nat → Int32) : Prop := ∀ s, s < 16 → isb s = if bs s = true then 1 else 0
def q_ar : Option Nat → Option Nat → Option Nat → Nat
  | none, _, _ => 0
  | some _, none, _ => 1
  | some _, some _, none => 2
  | some _, some _, some _ => 3
theorem q_ar_pl (pl : Nat → Nat → Option Nat) (t : Nat) : mx_ar pl t = q_ar (pl 0 t) (pl 1 t) (pl 2 t) := by
  unfold mx_ar
  cases pl 0 t <;> cases pl 1 t <;> cases pl 2 t <;> rfl
theorem q_ar_le (a b c : Option Nat) : q_ar a b c ≤ 3 := by cases a <;> cases b <;> cases c <;> simp [q_ar]
/-- the places that three numbers name -/
def tp_ok (n : Nat) (a b c : Int32) (qa qb qc : Option Nat) : Prop :=
  (a = -1 ∧ qa = none ∧ qb = none ∧ qc = none) ∨ (∃ x, x < n ∧ a = nI x ∧ qa = some x ∧ b = -1 ∧ qb = none ∧ qc = none) ∨
  (∃ x y, x < n ∧ y < n ∧ a = nI x ∧ qa = some x ∧ b = nI y ∧ qb = some y ∧ c = -1 ∧ qc = none) ∨
  (∃ x y z, x < n ∧ y < n ∧ z < n ∧ a = nI x ∧ qa = some x ∧ b = nI y ∧ qb = some y ∧ c = nI z ∧ qc = some z)
theorem nI_m1 {x : Nat} (h : x < 2 ^ 31) : ¬ nI x = -1 := fun q => by
  have h1 := nI_toInt h
  rw [q] at h1
  have : ((-1 : Int32).toInt) = -1 := by decide
  omega
theorem tp_det {n : Nat} (hn : n ≤ 60) {a b c : Int32} {qa qb qc qa' qb' qc' : Option Nat} (h : tp_ok n a b c qa qb qc) (h' : tp_ok n a b c qa' qb' qc') : qa = qa' ∧ qb = qb' ∧ qc = qc' := by
  have inj : ∀ {x y : Nat}, x < n → y < n → nI x = nI y → x = y := fun hx hy e => (nI_eq (by omega) (by omega)).mp e
  have m1 : ∀ {x : Nat}, x < n → ¬ nI x = -1 := fun hx => nI_m1 (by omega)
  rcases h with ⟨rfl, rfl, rfl, rfl⟩ | ⟨x, hx, rfl, rfl, rfl, rfl, rfl⟩ | ⟨x, y, hx, hy, rfl, rfl, rfl, rfl, rfl, rfl⟩ | ⟨x, y, z, hx, hy, hz, rfl, rfl, rfl, rfl, rfl, rfl⟩ <;>
  rcases h' with ⟨ea, rfl, rfl, rfl⟩ | ⟨x', hx', ea, rfl, eb, rfl, rfl⟩ | ⟨x', y', hx', hy', ea, rfl, eb, rfl, ec, rfl⟩ | ⟨x', y', z', hx', hy', hz', ea, rfl, eb, rfl, ec, rfl⟩
  · exact ⟨rfl, rfl, rfl⟩
  · exact absurd ea.symm (m1 hx')
  · exact absurd ea.symm (m1 hx')
  · exact absurd ea.symm (m1 hx')
  · exact absurd ea (m1 hx)
  · cases inj hx hx' ea; exact ⟨rfl, rfl, rfl⟩
  · exact absurd eb.symm (m1 hy')
  · exact absurd eb.symm (m1 hy')
  · exact absurd ea (m1 hx)
  · exact absurd eb (m1 hy)
  · cases inj hx hx' ea; cases inj hy hy' eb; exact ⟨rfl, rfl, rfl⟩
  · exact absurd ec.symm (m1 hz')
  · exact absurd ea (m1 hx)
  · exact absurd eb (m1 hy)
  · exact absurd ec (m1 hz)
  · cases inj hx hx' ea; cases inj hy hy' eb; cases inj hz hz' ec; exact ⟨rfl, rfl, rfl⟩
theorem tp_in {n : Nat} {a b c : Int32} {qa qb qc : Option Nat} (h : tp_ok n a b c qa qb qc) : (∀ k, qa = some k → k < n) ∧ (∀ k, qb = some k → k < n) ∧ (∀ k, qc = some k → k < n) ∧ (qa = none → qb = none) ∧ (qb = none → qc = none) := by
  rcases h with ⟨rfl, rfl, rfl, rfl⟩ | ⟨x, hx, rfl, rfl, rfl, rfl, rfl⟩ | ⟨x, y, hx, hy, rfl, rfl, rfl, rfl, rfl, rfl⟩ | ⟨x, y, z, hx, hy, hz, rfl, rfl, rfl, rfl, rfl, rfl⟩
  · exact ⟨fun k q => (by cases q), fun k q => (by cases q), fun k q => (by cases q), fun _ => rfl, fun _ => rfl⟩
  · exact ⟨fun k q => (by cases q; exact hx), fun k q => (by cases q), fun k q => (by cases q), fun _ => rfl, fun _ => rfl⟩
  · exact ⟨fun k q => (by cases q; exact hx), fun k q => (by cases q; exact hy), fun k q => (by cases q), fun q => (by cases q), fun _ => rfl⟩
  · exact ⟨fun k q => (by cases q; exact hx), fun k q => (by cases q; exact hy), fun k q => (by cases q; exact hz), fun q => (by cases q), fun q => (by cases q)⟩
/-- a term more -/
def mx_add (T : mx_T) (s : Nat) (qa qb qc : Option Nat) (b : Bool) : mx_T :=
  (mx_n T + 1, fun t => if t = mx_n T then s else mx_sg T t, fun j t => if t = mx_n T then (if j = 0 then qa else if j = 1 then qb else if j = 2 then qc else none) else mx_pl T j t, fun t => if t = mx_n T then b else mx_bu T t)
theorem ad_n (T : mx_T) (s : Nat) (qa qb qc : Option Nat) (b : Bool) : mx_n (mx_add T s qa qb qc b) = mx_n T + 1 := rfl
theorem ad_sn (T : mx_T) (s : Nat) (qa qb qc : Option Nat) (b : Bool) : mx_sg (mx_add T s qa qb qc b) (mx_n T) = s := if_pos rfl
theorem ad_s {T : mx_T} {s : Nat} {qa qb qc : Option Nat} {b : Bool} {t : Nat} (h : t < mx_n T) : mx_sg (mx_add T s qa qb qc b) t = mx_sg T t := if_neg (by omega)
theorem ad_bn (T : mx_T) (s : Nat) (qa qb qc : Option Nat) (b : Bool) : mx_bu (mx_add T s qa qb qc b) (mx_n T) = b := if_pos rfl
theorem ad_b {T : mx_T} {s : Nat} {qa qb qc : Option Nat} {b : Bool} {t : Nat} (h : t < mx_n T) : mx_bu (mx_add T s qa qb qc b) t = mx_bu T t := if_neg (by omega)
theorem ad_pn (T : mx_T) (s : Nat) (qa qb qc : Option Nat) (b : Bool) (j : Nat) : mx_pl (mx_add T s qa qb qc b) j (mx_n T) = (if j = 0 then qa else if j = 1 then qb else if j = 2 then qc else none) := if_pos rfl
theorem ad_p {T : mx_T} {s : Nat} {qa qb qc : Option Nat} {b : Bool} {t : Nat} (h : t < mx_n T) (j : Nat) : mx_pl (mx_add T s qa qb qc b) j t = mx_pl T j t := if_neg (by omega)
def te_mis (T : mx_T) (s : Nat) (qa qb qc : Option Nat) : Prop := ∃ t, t < mx_n T ∧ mx_sg T t = s ∧ mx_ar (mx_pl T) t ≠ q_ar qa qb qc
def te_is (T : mx_T) (s : Nat) (qa qb qc : Option Nat) (t : Nat) : Prop := mx_sg T t = s ∧ mx_pl T 0 t = qa ∧ mx_pl T 1 t = qb ∧ mx_pl T 2 t = qc
def te_in (bs : Nat → Bool) (T : mx_T) (s : Nat) (qa qb qc : Option Nat) (th r : Int32) (T' : mx_T) : Prop :=
  (th = 2 ∧ T' = T ∧ te_mis T s qa qb qc) ∨ (¬ te_mis T s qa qb qc ∧ ((th = 0 ∧ T' = T ∧ ∃ t, t < mx_n T ∧ te_is T s qa qb qc t ∧ r = nI t) ∨ ((∀ t, t < mx_n T → ¬ te_is T s qa qb qc t) ∧ ((th = 3 ∧ ¬ mx_n T < 60 ∧ T' = T) ∨ (th = 0 ∧ mx_n T < 60 ∧ r = nI (mx_n T) ∧ T' = mx_add T s qa qb qc (bs s))))))
def te_P (bs : Nat → Bool) (T : mx_T) (s a b c : Int32) (th r : Int32) (T' : mx_T) : Prop :=
  (th = 1 ∧ T' = T ∧ ¬ (ix 16 s ∧ ∃ qa qb qc, tp_ok (mx_n T) a b c qa qb qc)) ∨ ∃ s0 qa qb qc, s0 < 16 ∧ s = nI s0 ∧ tp_ok (mx_n T) a b c qa qb qc ∧ te_in bs T s0 qa qb qc th r T'
theorem te_one {T : mx_T} (hc : mx_hc T) {s : Nat} {qa qb qc : Option Nat} {t u : Nat} (ht : t < mx_n T) (hu : u < mx_n T) (h : te_is T s qa qb qc t) (h' : te_is T s qa qb qc u) : t = u :=
  hc t u ht hu (h.1.trans h'.1.symm) (fun j hj => by
    rcases (show j = 0 ∨ j = 1 ∨ j = 2 by omega) with rfl | rfl | rfl
    · rw [h.2.1, h'.2.1]
    · rw [h.2.2.1, h'.2.2.1]
    · rw [h.2.2.2, h'.2.2.2])
theorem te_det {bs : Nat → Bool} {T : mx_T} (hn : mx_n T ≤ 60) (hc : mx_hc T) {s a b c th r th' r' : Int32} {T1 T2 : mx_T} (h : te_P bs T s a b c th r T1) (h' : te_P bs T s a b c th' r' T2) : th = th' ∧ T1 = T2 ∧ (th = 0 → r = r') := by
  rcases h with ⟨e1, e2, e3⟩ | ⟨s0, qa, qb, qc, h0, rfl, h1, h2⟩ <;> rcases h' with ⟨e1', e2', e3'⟩ | ⟨s0', qa', qb', qc', h0', es, h1', h2'⟩
  · exact ⟨e1.trans e1'.symm, e2.trans e2'.symm, fun q => absurd (e1.symm.trans q) (by decide)⟩
  · exact absurd ⟨⟨s0', h0', es⟩, qa', qb', qc', h1'⟩ e3
  · exact absurd ⟨⟨s0, h0, rfl⟩, qa, qb, qc, h1⟩ e3'
  · obtain rfl : s0 = s0' := (nI_eq (by omega) (by omega)).mp es
    obtain ⟨rfl, rfl, rfl⟩ := tp_det hn h1 h1'
    rcases h2 with ⟨a1, a2, a3⟩ | ⟨a0, ⟨a1, a2, t, a3, a4, a5⟩ | ⟨a3, ⟨a1, a2, a4⟩ | ⟨a1, a2, a4, a5⟩⟩⟩ <;> rcases h2' with ⟨b1, b2, b3⟩ | ⟨b0, ⟨b1, b2, t', b3, b4, b5⟩ | ⟨b3, ⟨b1, b2, b4⟩ | ⟨b1, b2, b4, b5⟩⟩⟩
    · exact ⟨a1.trans b1.symm, a2.trans b2.symm, fun q => absurd (a1.symm.trans q) (by decide)⟩
    · exact absurd a3 b0
    · exact absurd a3 b0
    · exact absurd a3 b0
    · exact absurd b3 a0
    · exact ⟨a1.trans b1.symm, a2.trans b2.symm, fun _ => by rw [a5, b5, te_one hc a3 b3 a4 b4]⟩
    · exact absurd a4 (b3 t a3)
    · exact absurd a4 (b3 t a3)
    · exact absurd b3 a0
    · exact absurd b4 (a3 t' b3)
    · exact ⟨a1.trans b1.symm, a4.trans b4.symm, fun q => absurd (a1.symm.trans q) (by decide)⟩
    · exact absurd b2 a2
    · exact absurd b3 a0
    · exact absurd b4 (a3 t' b3)
    · exact absurd a2 b2
    · exact ⟨a1.trans b1.symm, a5.trans b5.symm, fun _ => a4.trans b4.symm⟩
/-- the places past the third are none -/
def mx_p3 (T : mx_T) : Prop := ∀ t j, t < mx_n T → 3 ≤ j → mx_pl T j t = none
theorem ad_none {T : mx_T} {s : Nat} {qa qb qc : Option Nat} {b : Bool} (h1 : qa = none → qb = none) (h2 : qb = none → qc = none) (j : Nat) : mx_pl (mx_add T s qa qb qc b) j (mx_n T) = none ↔ q_ar qa qb qc ≤ j := by
  rw [ad_pn]
  rcases (show j = 0 ∨ j = 1 ∨ j = 2 ∨ 3 ≤ j by omega) with rfl | rfl | rfl | hj
  · cases qa <;> cases qb <;> cases qc <;> simp_all [q_ar]
  · cases qa <;> cases qb <;> cases qc <;> simp_all [q_ar]
  · cases qa <;> cases qb <;> cases qc <;> simp_all [q_ar]
  · have := q_ar_le qa qb qc
    rw [if_neg (by omega), if_neg (by omega), if_neg (by omega)]
    exact ⟨fun _ => by omega, fun _ => rfl⟩
theorem ar_none {T : mx_T} (hpf : mx_pf T) (h3 : mx_p3 T) {t : Nat} (ht : t < mx_n T) (j : Nat) : mx_pl T j t = none ↔ mx_ar (mx_pl T) t ≤ j := by
  rcases Nat.lt_or_ge j 3 with hj | hj
  · exact mx_ar_iff hpf ht hj
  · have := mx_ar_le (mx_pl T) t
    exact ⟨fun _ => by omega, fun _ => h3 t j ht hj⟩
theorem ad_wf {T : mx_T} (hw : mx_wf T) (hpf : mx_pf T) (h3 : mx_p3 T) {bs : Nat → Bool} (hbs : ∀ t, t < mx_n T → mx_bu T t = bs (mx_sg T t)) {s : Nat} {qa qb qc : Option Nat} (ha : ∀ k, qa = some k → k < mx_n T) (hb : ∀ k, qb = some k → k < mx_n T) (hc : ∀ k, qc = some k → k < mx_n T) (h1 : qa = none → qb = none) (h2 : qb = none → qc = none) (hm : ¬ te_mis T s qa qb qc) : mx_wf (mx_add T s qa qb qc (bs s)) := by
  have key : ∀ u, u < mx_n T → mx_sg T u = s → ∀ j, (mx_pl (mx_add T s qa qb qc (bs s)) j (mx_n T) = none ↔ mx_pl T j u = none) := fun u hu e j => by
    rw [ad_none h1 h2, ar_none hpf h3 hu, Classical.byContradiction fun z => hm ⟨u, hu, e, z⟩]
  refine ⟨fun t j k ht hp => ?_, fun t u j ht hu e => ?_, fun t u ht hu e => ?_⟩
  · by_cases z : t = mx_n T
    · subst z
      rw [ad_pn] at hp
      by_cases q0 : j = 0
      · rw [if_pos q0] at hp; exact ha k hp
      · rw [if_neg q0] at hp
        by_cases q1 : j = 1
        · rw [if_pos q1] at hp; exact hb k hp
        · rw [if_neg q1] at hp
          by_cases q2 : j = 2
          · rw [if_pos q2] at hp; exact hc k hp
          · rw [if_neg q2] at hp; cases hp
    · have ht : t < mx_n T + 1 := ht
      rw [ad_p (by omega)] at hp
      exact hw.1 t j k (by omega) hp
  · have ht : t < mx_n T + 1 := ht
    have hu : u < mx_n T + 1 := hu
    by_cases z : t = mx_n T
    · subst z
      by_cases z2 : u = mx_n T
      · rw [z2]
      · rw [ad_sn, ad_s (by omega)] at e
        rw [ad_p (t := u) (by omega)]
        exact key u (by omega) e.symm j
    · by_cases z2 : u = mx_n T
      · subst z2
        rw [ad_sn, ad_s (by omega)] at e
        rw [ad_p (t := t) (by omega)]
        exact (key t (by omega) e j).symm
      · rw [ad_s (by omega), ad_s (by omega)] at e
        rw [ad_p (by omega), ad_p (by omega)]
        exact hw.2.1 t u j (by omega) (by omega) e
  · have ht : t < mx_n T + 1 := ht
    have hu : u < mx_n T + 1 := hu
    have key2 : ∀ x, x < mx_n T + 1 → mx_bu (mx_add T s qa qb qc (bs s)) x = bs (mx_sg (mx_add T s qa qb qc (bs s)) x) := fun x hx => by
      by_cases z : x = mx_n T
      · rw [z, ad_bn, ad_sn]
      · rw [ad_b (by omega), ad_s (by omega), hbs x (by omega)]
    rw [key2 t ht, key2 u hu, e]
theorem ad_pf {T : mx_T} (hpf : mx_pf T) {s : Nat} {qa qb qc : Option Nat} {b : Bool} (h1 : qa = none → qb = none) (h2 : qb = none → qc = none) : mx_pf (mx_add T s qa qb qc b) := fun t ht => by
  have ht : t < mx_n T + 1 := ht
  by_cases z : t = mx_n T
  · subst z
    rw [ad_pn, ad_pn, ad_pn]
    exact ⟨h1, h2⟩
  · rw [ad_p (by omega), ad_p (by omega), ad_p (by omega)]
    exact hpf t (by omega)
theorem ad_p3 {T : mx_T} (h3 : mx_p3 T) {s : Nat} {qa qb qc : Option Nat} {b : Bool} : mx_p3 (mx_add T s qa qb qc b) := fun t j ht hj => by
  have ht : t < mx_n T + 1 := ht
  by_cases z : t = mx_n T
  · subst z
    rw [ad_pn, if_neg (by omega), if_neg (by omega), if_neg (by omega)]
  · rw [ad_p (by omega)]
    exact h3 t j (by omega) hj
theorem ad_hc {T : mx_T} (hc : mx_hc T) {s : Nat} {qa qb qc : Option Nat} {b : Bool} (hno : ∀ t, t < mx_n T → ¬ te_is T s qa qb qc t) : mx_hc (mx_add T s qa qb qc b) := by
  have key : ∀ u, u < mx_n T → mx_sg T u = s → (∀ j, j < 3 → mx_pl (mx_add T s qa qb qc b) j (mx_n T) = mx_pl T j u) → False := fun u hu e q => by
    have q0 := q 0 (by omega)
    have q1 := q 1 (by omega)
    have q2 := q 2 (by omega)
    rw [ad_pn] at q0 q1 q2
    exact hno u hu ⟨e, q0.symm, q1.symm, q2.symm⟩
  intro t u ht hu e q
  have ht : t < mx_n T + 1 := ht
  have hu : u < mx_n T + 1 := hu
  by_cases z : t = mx_n T
  · subst z
    by_cases z2 : u = mx_n T
    · exact z2.symm
    · rw [ad_sn, ad_s (by omega)] at e
      exact (key u (by omega) e.symm (fun j hj => (q j hj).trans (ad_p (by omega) j))).elim
  · by_cases z2 : u = mx_n T
    · subst z2
      rw [ad_sn, ad_s (by omega)] at e
      exact (key t (by omega) e (fun j hj => (q j hj).symm.trans (ad_p (by omega) j))).elim
    · rw [ad_s (by omega), ad_s (by omega)] at e
      exact hc t u (by omega) (by omega) e (fun j hj => by
        have := q j hj
        rw [ad_p (by omega), ad_p (by omega)] at this
        exact this)
theorem ad_us {T : mx_T} {s : Nat} {qa qb qc : Option Nat} {b : Bool} (x : Nat) : us_P (mx_add T s qa qb qc b) x ↔ us_P T x ∨ x = s := by
  constructor
  · rintro ⟨t, ht, e⟩
    have ht : t < mx_n T + 1 := ht
    by_cases z : t = mx_n T
    · rw [z, ad_sn] at e; exact Or.inr e.symm
    · rw [ad_s (by omega)] at e; exact Or.inl ⟨t, by omega, e⟩
  · rintro (⟨t, ht, e⟩ | e)
    · exact ⟨t, by show t < mx_n T + 1; omega, by rw [ad_s ht]; exact e⟩
    · exact ⟨mx_n T, by show mx_n T < mx_n T + 1; omega, by rw [ad_sn]; exact e.symm⟩
theorem ad_ar {T : mx_T} {s : Nat} {qa qb qc : Option Nat} {b : Bool} : mx_ar (mx_pl (mx_add T s qa qb qc b)) (mx_n T) = q_ar qa qb qc := by
  rw [q_ar_pl, ad_pn, ad_pn, ad_pn]
  rfl
theorem ad_ar2 {T : mx_T} {s : Nat} {qa qb qc : Option Nat} {b : Bool} {t : Nat} (h : t < mx_n T) : mx_ar (mx_pl (mx_add T s qa qb qc b)) t = mx_ar (mx_pl T) t := by
  rw [q_ar_pl, q_ar_pl, ad_p h, ad_p h, ad_p h]
/-- the reference's arrays, a term later -/
theorem md_add {T : mx_T} {isb pls msg at_ : Nat → Int32} (h : md_T T isb pls msg at_) {bs : Nat → Bool} (hB : md_B bs isb) {s : Nat} (hs : s < 16) {qa qb qc : Option Nat} (hm : ¬ te_mis T s qa qb qc) : md_T (mx_add T s qa qb qc (bs s)) isb (upd pls s (nI (q_ar qa qb qc))) (upd msg (mx_n T) (nI s)) (upd (upd (upd at_ (3 * mx_n T) (mx_enc qa)) (3 * mx_n T + 1) (mx_enc qb)) (3 * mx_n T + 2) (mx_enc qc)) := by
  refine ⟨fun t ht => ?_, fun t j ht hj => ?_⟩
  · have ht : t < mx_n T + 1 := ht
    by_cases z : t = mx_n T
    · subst z
      rw [pk_us, ad_sn, ad_bn, ad_ar, pk_us]
      exact ⟨rfl, hs, rfl, hB s hs⟩
    · have ht2 : t < mx_n T := by omega
      rw [pk_un z, ad_s ht2, ad_b ht2, ad_ar2 ht2]
      obtain ⟨a1, a2, a3, a4⟩ := h.1 t ht2
      refine ⟨a1, a2, ?_, a4⟩
      by_cases w : mx_sg T t = s
      · rw [w, pk_us, Classical.byContradiction fun q => hm ⟨t, ht2, w, fun e => q e.symm⟩]
      · rw [pk_un w]; exact a3
  · have ht : t < mx_n T + 1 := ht
    by_cases z : t = mx_n T
    · subst z
      rw [ad_pn]
      rcases (show j = 0 ∨ j = 1 ∨ j = 2 by omega) with rfl | rfl | rfl
      · rw [pk_un (by omega), pk_un (by omega), Nat.add_zero, pk_us, if_pos rfl]
      · rw [pk_un (by omega), pk_us]; rfl
      · rw [pk_us]; rfl
    · rw [pk_un (by omega), pk_un (by omega), pk_un (by omega), ad_p (by omega)]
      exact h.2 t j (by omega) hj
theorem mdU_add {T : mx_T} {isu : Nat → Int32} (h : md_U T isu) {s : Nat} {qa qb qc : Option Nat} {b : Bool} : md_U (mx_add T s qa qb qc b) (upd isu s 1) := fun x hx => by
  by_cases z : x = s
  · subst z; rw [pk_us]; exact Or.inl ⟨rfl, (ad_us x).mpr (Or.inr rfl)⟩
  · rw [pk_un z]; exact zb_iff (h x hx) ⟨fun q => (ad_us x).mpr (Or.inl q), fun q => ((ad_us x).mp q).resolve_right z⟩
def te_Q (bs : Nat → Bool) (T : mx_T) (isb : Nat → Int32) (s a b c r : Int32) (u : mx_T × Int32 × (Nat → Int32) × (Nat → Int32) × (Nat → Int32) × (Nat → Int32)) : Prop := match u with
  | (T2, th2, isu2, pls2, msg2, at2) => te_P bs T s a b c th2 r T2 ∧ md_T T2 isb pls2 msg2 at2 ∧ md_U T2 isu2
/-- what builder does -/
def bu_P (T : mx_T) (bs : Nat → Bool) (s th : Int32) (bs' : Nat → Bool) : Prop := (¬ ix 16 s ∧ th = 1 ∧ bs' = bs) ∨ ∃ s0, s0 < 16 ∧ s = nI s0 ∧ ((us_P T s0 ∧ th = 2 ∧ bs' = bs) ∨ (¬ us_P T s0 ∧ th = 0 ∧ bs' = fun x => if x = s0 then true else bs x))
theorem bu_det {T : mx_T} {bs bs1 bs2 : Nat → Bool} {s th th' : Int32} (h : bu_P T bs s th bs1) (h' : bu_P T bs s th' bs2) : th = th' ∧ bs1 = bs2 := by
  rcases h with ⟨a1, a2, a3⟩ | ⟨s0, a1, rfl, a3⟩ <;> rcases h' with ⟨b1, b2, b3⟩ | ⟨s1, b1, b2, b3⟩
  · exact ⟨a2.trans b2.symm, a3.trans b3.symm⟩
  · exact absurd ⟨s1, b1, b2⟩ a1
  · exact absurd ⟨s0, a1, rfl⟩ b1
  · obtain rfl : s0 = s1 := (nI_eq (by omega) (by omega)).mp b2
    rcases a3 with ⟨a3, a4, a5⟩ | ⟨a3, a4, a5⟩ <;> rcases b3 with ⟨b3, b4, b5⟩ | ⟨b3, b4, b5⟩
    · exact ⟨a4.trans b4.symm, a5.trans b5.symm⟩
    · exact absurd a3 b3
    · exact absurd b3 a3
    · exact ⟨a4.trans b4.symm, a5.trans b5.symm⟩
theorem mdT_isb {T : mx_T} {isb isb' pls msg at_ : Nat → Int32} (h : md_T T isb pls msg at_) (e : ∀ t, t < mx_n T → isb' (mx_sg T t) = isb (mx_sg T t)) : md_T T isb' pls msg at_ :=
  ⟨fun t ht => ⟨(h.1 t ht).1, (h.1 t ht).2.1, (h.1 t ht).2.2.1, (e t ht).trans (h.1 t ht).2.2.2⟩, h.2⟩
def bu_Q (T : mx_T) (bs : Nat → Bool) (pls msg at_ : Nat → Int32) (s : Int32) (u : Int32 × (Nat → Bool) × (Nat → Int32)) : Prop := match u with
  | (th2, bs2, isb2) => bu_P T bs s th2 bs2 ∧ md_B bs2 isb2 ∧ md_T T isb2 pls msg at_
/-- facts: one more, one fewer -/
def mf_add (F : mx_F) (x y : Nat) (b : Bool) : mx_F := (mx_m F + 1, fun f => if f = mx_m F then x else mx_lf F f, fun f => if f = mx_m F then y else mx_rt F f, fun f => if f = mx_m F then b else mx_sm F f)
def mf_un (F : mx_F) : mx_F := (mx_m F - 1, mx_lf F, mx_rt F, mx_sm F)
/-- facts as three arrays hold them -/
def fk_3 (T : mx_T) (F : mx_F) (on tw sa : Nat → Int32) : Prop := mx_m F ≤ 40 ∧ ∀ f, f < mx_m F → on f = nI (mx_lf F f) ∧ tw f = nI (mx_rt F f) ∧ mx_lf F f < mx_n T ∧ mx_rt F f < mx_n T ∧ sa f = (if mx_sm F f = true then 1 else 0)
theorem fk_add {T : mx_T} {F : mx_F} {on tw sa : Nat → Int32} (h : fk_3 T F on tw sa) {x y : Nat} (hx : x < mx_n T) (hy : y < mx_n T) {b : Bool} (hm : mx_m F < 40) {v : Int32} (hv : v = if b = true then 1 else 0) : fk_3 T (mf_add F x y b) (upd on (mx_m F) (nI x)) (upd tw (mx_m F) (nI y)) (upd sa (mx_m F) v) := by
  refine ⟨show mx_m F + 1 ≤ 40 by omega, fun f hf => ?_⟩
  have hf : f < mx_m F + 1 := hf
  by_cases z : f = mx_m F
  · subst z
    rw [pk_us, pk_us, pk_us]
    show _ ∧ _ ∧ (if mx_m F = mx_m F then x else _) < _ ∧ (if mx_m F = mx_m F then y else _) < _ ∧ _
    rw [if_pos rfl, if_pos rfl]
    refine ⟨?_, ?_, hx, hy, ?_⟩
    · show nI x = nI (if mx_m F = mx_m F then x else _); rw [if_pos rfl]
    · show nI y = nI (if mx_m F = mx_m F then y else _); rw [if_pos rfl]
    · show v = if (if mx_m F = mx_m F then b else _) = true then 1 else 0; rw [if_pos rfl]; exact hv
  · rw [pk_un z, pk_un z, pk_un z]
    have e1 : mx_lf (mf_add F x y b) f = mx_lf F f := if_neg z
    have e2 : mx_rt (mf_add F x y b) f = mx_rt F f := if_neg z
    have e3 : mx_sm (mf_add F x y b) f = mx_sm F f := if_neg z
    rw [e1, e2, e3]
    exact h.2 f (by omega)
theorem fk_un {T : mx_T} {F : mx_F} {on tw sa : Nat → Int32} (h : fk_3 T F on tw sa) : fk_3 T (mf_un F) on tw sa := ⟨show mx_m F - 1 ≤ 40 by have := h.1; omega, fun f hf => h.2 f (by have hf : f < mx_m F - 1 := hf; omega)⟩
theorem fk_T {T T' : mx_T} (hT : mx_n T ≤ mx_n T') {F : mx_F} {on tw sa : Nat → Int32} (h : fk_3 T F on tw sa) : fk_3 T' F on tw sa := ⟨h.1, fun f hf => by obtain ⟨a, b, c, d, e⟩ := h.2 f hf; exact ⟨a, b, by omega, by omega, e⟩⟩
/-- what fact does -/
def fa_A (T : mx_T) (F : mx_F) (a b sm th r : Int32) (F' : mx_F) : Prop := (∃ x y, x < mx_n T ∧ y < mx_n T ∧ a = nI x ∧ b = nI y ∧ ((th = 2 ∧ ¬ mx_m F < 40 ∧ F' = F) ∨ (th = 0 ∧ mx_m F < 40 ∧ r = nI (mx_m F) ∧ F' = mf_add F x y (decide (sm = 1))))) ∨ (¬ (ix (mx_n T) a ∧ ix (mx_n T) b) ∧ th = 1 ∧ F' = F)
theorem fa_det {T : mx_T} (hn : mx_n T ≤ 60) {F F1 F2 : mx_F} {a b sm th r th' r' : Int32} (h : fa_A T F a b sm th r F1) (h' : fa_A T F a b sm th' r' F2) : th = th' ∧ F1 = F2 ∧ (th = 0 → r = r') := by
  rcases h with ⟨x, y, hx, hy, rfl, rfl, a3⟩ | ⟨a1, a2, a3⟩ <;> rcases h' with ⟨x', y', hx', hy', e1, e2, b3⟩ | ⟨b1, b2, b3⟩
  · obtain rfl : x = x' := (nI_eq (by omega) (by omega)).mp e1
    obtain rfl : y = y' := (nI_eq (by omega) (by omega)).mp e2
    rcases a3 with ⟨a3, a4, a5⟩ | ⟨a3, a4, a5, a6⟩ <;> rcases b3 with ⟨b3, b4, b5⟩ | ⟨b3, b4, b5, b6⟩
    · exact ⟨a3.trans b3.symm, a5.trans b5.symm, fun q => absurd (a3.symm.trans q) (by decide)⟩
    · exact absurd b4 a4
    · exact absurd a4 b4
    · exact ⟨a3.trans b3.symm, a6.trans b6.symm, fun _ => a5.trans b5.symm⟩
  · exact absurd ⟨⟨x, hx, rfl⟩, y, hy, rfl⟩ b1
  · exact absurd ⟨⟨x', hx', e1⟩, y', hy', e2⟩ a1
  · exact ⟨a2.trans b2.symm, a3.trans b3.symm, fun q => absurd (a2.symm.trans q) (by decide)⟩
/-- what about answers -/
def ab_P (T : mx_T) (F : mx_F) (w r : Int32) : Prop := r = if w = 0 then nI (mx_n T) else if w = 1 then nI (mx_m F) else if w = 2 then nI (mx_cnt (us_b T) 16) else -1
/-- what part answers -/
def pt_P (T : mx_T) (t w r : Int32) : Prop := (¬ ix (mx_n T) t ∧ r = -1) ∨ ∃ x, x < mx_n T ∧ t = nI x ∧ r = if w = 0 then nI (mx_sg T x) else if w = 1 then mx_enc (mx_pl T 0 x) else if w = 2 then mx_enc (mx_pl T 1 x) else if w = 3 then mx_enc (mx_pl T 2 x) else if w = 4 then nI (mx_cnt (su_b T x) (mx_n T)) else -1
theorem pt_det {T : mx_T} (hn : mx_n T ≤ 60) {t w r r' : Int32} (h : pt_P T t w r) (h' : pt_P T t w r') : r = r' := by
  rcases h with ⟨a1, a2⟩ | ⟨x, hx, rfl, a3⟩ <;> rcases h' with ⟨b1, b2⟩ | ⟨y, hy, e, b3⟩
  · exact a2.trans b2.symm
  · exact absurd ⟨y, hy, e⟩ a1
  · exact absurd ⟨x, hx, rfl⟩ b1
  · obtain rfl : x = y := (nI_eq (by omega) (by omega)).mp e
    exact a3.trans b3.symm
