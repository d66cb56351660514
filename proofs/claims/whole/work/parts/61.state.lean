/-! THE CLASS: what it holds, and what a term more does to it -/
/-- places by sign -/
def po_ok (T : mx_T) (po : Nat → Int32) : Prop := (∀ s, s < 16 → (po s = -1 ↔ ¬ us_P T s)) ∧ ∀ t, t < mx_n T → po (mx_sg T t) = nI (mx_ar (mx_pl T) t)
/-- what stands inside -/
def in_ok (T : mx_T) (ins : Nat → Int64) : Prop := ∀ t, t < mx_n T → ∀ u, jb (ins t) u = true ↔ mx_sub (mx_pl T) t u
/-- the rows that no fact makes; behind the terms nothing -/
def ap_ok (T : mx_T) (nm : Nat → Int32) (me fu su tu be : Nat → Int64) (bd : Nat → Int32) (mi : Int32) : Prop := rk_ok T (fun t => t) nm me fu su tu be bd mi ∧ ∀ t, mx_n T ≤ t → t < 60 → fu t = 0 ∧ su t = 0 ∧ tu t = 0 ∧ be t = 0
theorem po_add {T : mx_T} {po : Nat → Int32} (h : po_ok T po) {s : Nat} {qa qb qc : Option Nat} {b : Bool} (hm : ¬ te_mis T s qa qb qc) : po_ok (mx_add T s qa qb qc b) (upd po s (nI (q_ar qa qb qc))) := by
  have har := q_ar_le qa qb qc
  refine ⟨fun x hx => ?_, fun t ht => ?_⟩
  · by_cases z : x = s
    · subst z
      rw [pk_us]
      exact ⟨fun q => absurd q (nI_m1 (by omega)), fun q => absurd ((ad_us x).mpr (Or.inr rfl)) q⟩
    · rw [pk_un z, h.1 x hx, ad_us]
      exact ⟨fun q r => r.elim q z, fun q r => q (Or.inl r)⟩
  · have ht : t < mx_n T + 1 := ht
    by_cases z : t = mx_n T
    · subst z
      rw [ad_sn, ad_ar, pk_us]
    · rw [ad_s (by omega), ad_ar2 (by omega)]
      by_cases w : mx_sg T t = s
      · rw [w, pk_us, Classical.byContradiction fun q => hm ⟨t, by omega, w, fun e => q e.symm⟩]
      · rw [pk_un w]; exact h.2 t (by omega)
theorem tm_add {T : mx_T} {sg fa fb fc : Nat → Int32} {os : Nat → Int64} (h : tm_ok T sg fa fb fc os) (hn : mx_n T < 60) {s : Nat} (hs : s < 16) {qa qb qc : Option Nat} {b : Bool} : tm_ok (mx_add T s qa qb qc b) (upd sg (mx_n T) (nI s)) (upd fa (mx_n T) (mx_enc qa)) (upd fb (mx_n T) (mx_enc qb)) (upd fc (mx_n T) (mx_enc qc)) (vp_updL os s (os s ||| ((1 : Int64) <<< ((nI (mx_n T)).toInt64 &&& 63)))) := by
  refine ⟨fun t ht => ?_, fun x hx t => ?_⟩
  · have ht : t < mx_n T + 1 := ht
    by_cases z : t = mx_n T
    · subst z
      rw [pk_us, pk_us, pk_us, pk_us, ad_sn, ad_pn, ad_pn, ad_pn]
      exact ⟨rfl, hs, rfl, rfl, rfl⟩
    · rw [pk_un z, pk_un z, pk_un z, pk_un z, ad_s (by omega), ad_p (by omega), ad_p (by omega), ad_p (by omega)]
      exact h.1 t (by omega)
  · by_cases z : x = s
    · subst z
      rw [pk_uLs, jb_or, Bool.or_eq_true, h.2 x hx, jb_one (by omega), decide_eq_true_iff]
      constructor
      · rintro (⟨a, b⟩ | rfl)
        · exact ⟨show t < mx_n T + 1 by omega, by rw [ad_s a]; exact b⟩
        · exact ⟨show mx_n T < mx_n T + 1 by omega, by rw [ad_sn]⟩
      · rintro ⟨a, b⟩
        have a : t < mx_n T + 1 := a
        by_cases w : t = mx_n T
        · exact Or.inr w
        · rw [ad_s (by omega)] at b; exact Or.inl ⟨by omega, b⟩
    · rw [pk_uLn z, h.2 x hx]
      constructor
      · rintro ⟨a, b⟩
        exact ⟨show t < mx_n T + 1 by omega, by rw [ad_s a]; exact b⟩
      · rintro ⟨a, b⟩
        have a : t < mx_n T + 1 := a
        by_cases w : t = mx_n T
        · rw [w, ad_sn] at b; exact absurd b.symm z
        · rw [ad_s (by omega)] at b; exact ⟨by omega, b⟩
theorem bu_add {T : mx_T} {bu bu2 : Int64} (h : rk_bu T bu) (hn : mx_n T < 60) {s : Nat} {qa qb qc : Option Nat} {b : Bool} (h0 : b = false → bu2 = bu) (h1 : b = true → bu2 = bu ||| ((1 : Int64) <<< ((nI (mx_n T)).toInt64 &&& 63))) : rk_bu (mx_add T s qa qb qc b) bu2 := by
  have nb : jb bu (mx_n T) = false := ts_nt (fun q => by have := ((h _).mp q).1; omega)
  intro t
  show jb bu2 t = true ↔ t < mx_n T + 1 ∧ _
  by_cases z : t = mx_n T
  · subst z
    rw [ad_bn]
    cases b with
    | false => rw [h0 rfl, nb]; simp
    | true => rw [h1 rfl, jb_or, jb_one (by omega)]; simp
  · have e : jb bu2 t = jb bu t := by
      cases b with
      | false => rw [h0 rfl]
      | true => rw [h1 rfl, jb_or, jb_one (by omega)]; simp [z]
    rw [e, h t]
    constructor
    · rintro ⟨a, c⟩; exact ⟨by omega, by rw [ad_b a]; exact c⟩
    · rintro ⟨a, c⟩
      rw [ad_b (by omega)] at c
      exact ⟨by omega, c⟩
theorem in_of_jb {T : mx_T} {ins : Nat → Int64} (h : in_ok T ins) {q : Option Nat} (hq : ∀ k, q = some k → k < mx_n T) (u : Nat) : jb (in_of ins q) u = true ↔ ∃ k, q = some k ∧ mx_sub (mx_pl T) k u := by
  cases q with
  | none => rw [show in_of ins none = 0 from rfl, jb_0]; exact ⟨fun q => (by cases q), fun ⟨k, e, _⟩ => (by cases e)⟩
  | some k => rw [show in_of ins (some k) = ins k from rfl, h k (hq k rfl)]; exact ⟨fun q => ⟨k, rfl, q⟩, fun ⟨j, e, q⟩ => by cases e; exact q⟩
theorem in_add {T : mx_T} (hw : mx_wf T) {ins : Nat → Int64} (h : in_ok T ins) (hn : mx_n T < 60) {s : Nat} {qa qb qc : Option Nat} {b : Bool} (ha : ∀ k, qa = some k → k < mx_n T) (hb : ∀ k, qb = some k → k < mx_n T) (hc : ∀ k, qc = some k → k < mx_n T) :
    in_ok (mx_add T s qa qb qc b) (vp_updL ins (mx_n T) (((((1 : Int64) <<< ((nI (mx_n T)).toInt64 &&& 63)) ||| in_of ins qa) ||| in_of ins qb) ||| in_of ins qc)) := by
  have cg : ∀ k u, k < mx_n T → (mx_sub (mx_pl (mx_add T s qa qb qc b)) k u ↔ mx_sub (mx_pl T) k u) := fun k u hk => mx_sub_congr (n := mx_n T) (fun t j k h1 h2 => hw.1 t j k h1 h2) (fun x j hx => ad_p hx j) hk
  intro t ht u
  have ht : t < mx_n T + 1 := ht
  by_cases z : t = mx_n T
  · subst z
    rw [pk_uLs, jb_or, jb_or, jb_or, Bool.or_eq_true, Bool.or_eq_true, Bool.or_eq_true, jb_one (by omega), decide_eq_true_iff, in_of_jb h ha, in_of_jb h hb, in_of_jb h hc, mx_sub_iff]
    have e0 := ad_pn T s qa qb qc b 0
    have e1 := ad_pn T s qa qb qc b 1
    have e2 := ad_pn T s qa qb qc b 2
    constructor
    · rintro (((q | ⟨k, q, r⟩) | ⟨k, q, r⟩) | ⟨k, q, r⟩)
      · exact Or.inl q
      · exact Or.inr ⟨0, k, by omega, by rw [e0]; exact q, (cg k u (ha k q)).mpr r⟩
      · exact Or.inr ⟨1, k, by omega, by rw [e1]; exact q, (cg k u (hb k q)).mpr r⟩
      · exact Or.inr ⟨2, k, by omega, by rw [e2]; exact q, (cg k u (hc k q)).mpr r⟩
    · rintro (q | ⟨j, k, hj, q, r⟩)
      · exact Or.inl (Or.inl (Or.inl q))
      · rcases (show j = 0 ∨ j = 1 ∨ j = 2 by omega) with rfl | rfl | rfl
        · rw [e0] at q
          have q : qa = some k := q
          exact Or.inl (Or.inl (Or.inr ⟨k, q, (cg k u (ha k q)).mp r⟩))
        · rw [e1] at q
          have q : qb = some k := q
          exact Or.inl (Or.inr ⟨k, q, (cg k u (hb k q)).mp r⟩)
        · rw [e2] at q
          have q : qc = some k := q
          exact Or.inr ⟨k, q, (cg k u (hc k q)).mp r⟩
  · rw [pk_uLn z, h t (by omega), cg t u (by omega)]
theorem us_jb {f : Nat → Int64} {q : Option Nat} {n r t : Nat} (hn : n < 64) : jb (us_add f q n r) t = true ↔ jb (f r) t = true ∨ (q = some r ∧ t = n) := by
  cases q with
  | none => exact ⟨Or.inl, fun h => h.elim id (fun z => by cases z.1)⟩
  | some k =>
    show jb (vp_updL f k (f k ||| _) r) t = true ↔ _
    by_cases z : r = k
    · subst z
      rw [pk_uLs, jb_or, Bool.or_eq_true, jb_one hn, decide_eq_true_iff]
      exact or_congr_right ⟨fun q => ⟨rfl, q⟩, fun q => q.2⟩
    · rw [pk_uLn z]
      exact ⟨Or.inl, fun h => h.elim id (fun w => absurd (Option.some.inj w.1).symm z)⟩
theorem us_ne {f : Nat → Int64} {q : Option Nat} {n r : Nat} (h : ∀ k, q = some k → k ≠ r) : us_add f q n r = f r := by
  cases q with
  | none => rfl
  | some k => exact pk_uLn (fun z => h k rfl z.symm)
theorem ap_add {T : mx_T} (hw : mx_wf T) (hn : mx_n T < 60) {nm : Nat → Int32} {me fu su tu be be2 : Nat → Int64} {bd bd2 : Nat → Int32} {mi : Int32} (h : ap_ok T nm me fu su tu be bd mi) {s : Nat} (hs : s < 16) {qa qb qc : Option Nat} {b : Bool} {bu : Int64} (hbu : rk_bu (mx_add T s qa qb qc b) bu)
    (ha : ∀ k, qa = some k → k < mx_n T) (hb : ∀ k, qb = some k → k < mx_n T) (hc : ∀ k, qc = some k → k < mx_n T) (hq : ad_Q be bd bu s qa qb qc (mx_n T) (be2, bd2)) :
    ap_ok (mx_add T s qa qb qc b) (upd nm (mx_n T) (nI (mx_n T))) (vp_updL me (mx_n T) ((1 : Int64) <<< ((nI (mx_n T)).toInt64 &&& 63))) (us_add fu qa (mx_n T)) (us_add su qb (mx_n T)) (us_add tu qc (mx_n T)) be2 bd2 mi := by
  obtain ⟨⟨r1, bb, mixed, ⟨q1, q2, q3, q4, q5, q6, q7⟩, r3, r4⟩, z0⟩ := h
  have hmix : mixed = false := ts_nt (fun e => by
    obtain ⟨t, u, -, -, e1, -, -, ne⟩ := q7 e
    have e1 : t = u := e1
    exact ne (by rw [e1]))
  have hbt : jb bu (mx_n T) = true ↔ b = true := by
    rw [hbu (mx_n T), ad_bn]
    exact ⟨fun z => z.2, fun z => ⟨show mx_n T < mx_n T + 1 by omega, z⟩⟩
  have hbe : ∀ r, r ≠ mx_n T → be2 r = be r := fun r hr => by
    by_cases w : jb bu (mx_n T) = true
    · obtain ⟨⟨bv, e1, -⟩, -⟩ := hq.1 w
      have e1 : be2 = vp_updL be (mx_n T) bv := e1
      rw [e1, pk_uLn hr]
    · rw [show be2 = be from (hq.2 w).1]
  have hbd : ∀ r, r ≠ mx_n T → bd2 r = bd r := fun r hr => by
    by_cases w : jb bu (mx_n T) = true
    · rw [show bd2 = upd bd (mx_n T) (nI s) from (hq.1 w).2, pk_un hr]
    · rw [show bd2 = upd bd (mx_n T) (-1) from (hq.2 w).2, pk_un hr]
  have hUs : ∀ (F : Nat → Int64) (q : Option Nat) (j : Nat), j < 3 → (∀ k, q = some k → k < mx_n T) → mx_pl (mx_add T s qa qb qc b) j (mx_n T) = q → F (mx_n T) = 0 → (∀ r, r < mx_n T → ∀ t, jb (F r) t = true ↔ t < mx_n T ∧ ∃ k, mx_pl T j t = some k ∧ k = r) →
      ∀ r, r < mx_n T + 1 → ∀ t, jb (us_add F q (mx_n T) r) t = true ↔ t < mx_n T + 1 ∧ ∃ k, mx_pl (mx_add T s qa qb qc b) j t = some k ∧ k = r := by
    intro F q j hj hq1 hq2 h0 hF r hr t
    rw [us_jb (by omega)]
    by_cases zr : r = mx_n T
    · subst zr
      rw [h0, jb_0]
      constructor
      · rintro (x | ⟨x, -⟩)
        · cases x
        · have := hq1 _ x; omega
      · rintro ⟨x, k, x1, x2⟩
        by_cases zt : t = mx_n T
        · rw [zt, hq2] at x1
          have := hq1 k x1
          omega
        · rw [ad_p (by omega)] at x1
          have := hw.1 t j k (by omega) x1
          omega
    · rw [hF r (by omega) t]
      constructor
      · rintro (⟨x, k, x1, x2⟩ | ⟨x, rfl⟩)
        · exact ⟨by omega, k, by rw [ad_p x]; exact x1, x2⟩
        · exact ⟨by omega, r, by rw [hq2]; exact x, rfl⟩
      · rintro ⟨x, k, x1, x2⟩
        by_cases zt : t = mx_n T
        · rw [zt, hq2] at x1
          subst x2
          exact Or.inr ⟨x1, zt⟩
        · rw [ad_p (by omega)] at x1
          exact Or.inl ⟨by omega, k, x1, x2⟩
  have zn := z0 (mx_n T) (Nat.le_refl _) hn
  refine ⟨⟨fun t ht => ?_, fun r => if r = mx_n T then (if b = true then some s else none) else bb r, false, ⟨fun t ht => ⟨ht, rfl⟩, fun r hr _ t => ?_, fun j r hj hr _ t => ?_, fun r hr _ k => ?_, fun r hr _ => ?_, fun _ t u _ _ e _ _ => ?_, fun e => by cases e⟩, fun r hr => ?_, by rw [r4, hmix]⟩, fun t ht ht2 => ?_⟩
  · have ht : t < mx_n T + 1 := ht
    by_cases z : t = mx_n T
    · subst z; exact pk_us
    · rw [pk_un z]; exact r1 t (by omega)
  · have hr : r < mx_n T + 1 := hr
    show jb (vp_updL me (mx_n T) _ r) t = true ↔ t < mx_n T + 1 ∧ t = r
    by_cases z : r = mx_n T
    · subst z
      rw [pk_uLs, jb_one (by omega), decide_eq_true_iff]
      exact ⟨fun e => ⟨by omega, e⟩, fun e => e.2⟩
    · rw [pk_uLn z]
      have := q2 r (by omega) rfl t
      have this : jb (me r) t = true ↔ t < mx_n T ∧ t = r := this
      rw [this]
      exact ⟨fun e => ⟨by omega, e.2⟩, fun e => ⟨by omega, e.2⟩⟩
  · have hr : r < mx_n T + 1 := hr
    rcases (show j = 0 ∨ j = 1 ∨ j = 2 by omega) with rfl | rfl | rfl
    · exact hUs fu qa 0 (by omega) ha (ad_pn T s qa qb qc b 0) zn.1 (fun r hr => q3 0 r (by omega) hr rfl) r hr t
    · exact hUs su qb 1 (by omega) hb (ad_pn T s qa qb qc b 1) zn.2.1 (fun r hr => q3 1 r (by omega) hr rfl) r hr t
    · exact hUs tu qc 2 (by omega) hc (ad_pn T s qa qb qc b 2) zn.2.2.1 (fun r hr => q3 2 r (by omega) hr rfl) r hr t
  · have hr : r < mx_n T + 1 := hr
    show jb (be2 r) k = true ↔ ∃ t j, t < mx_n T + 1 ∧ t = r ∧ mx_bu (mx_add T s qa qb qc b) t = true ∧ j < 3 ∧ mx_pl (mx_add T s qa qb qc b) j t = some k
    by_cases z : r = mx_n T
    · subst z
      by_cases w : jb bu (mx_n T) = true
      · obtain ⟨⟨bv, e1, e2⟩, -⟩ := hq.1 w
        have e1 : be2 = vp_updL be (mx_n T) bv := e1
        rw [e1, pk_uLs, e2 k, Bool.or_eq_true, Bool.or_eq_true, decide_eq_true_iff, decide_eq_true_iff, decide_eq_true_iff]
        constructor
        · rintro ((x | x) | x)
          · exact ⟨_, 0, by omega, rfl, by rw [ad_bn]; exact hbt.mp w, by omega, by rw [ad_pn]; exact x⟩
          · exact ⟨_, 1, by omega, rfl, by rw [ad_bn]; exact hbt.mp w, by omega, by rw [ad_pn]; exact x⟩
          · exact ⟨_, 2, by omega, rfl, by rw [ad_bn]; exact hbt.mp w, by omega, by rw [ad_pn]; exact x⟩
        · rintro ⟨t, j, x1, rfl, x3, x4, x5⟩
          rw [ad_pn] at x5
          rcases (show j = 0 ∨ j = 1 ∨ j = 2 by omega) with rfl | rfl | rfl
          · exact Or.inl (Or.inl x5)
          · exact Or.inl (Or.inr x5)
          · exact Or.inr x5
      · rw [show be2 = be from (hq.2 w).1, zn.2.2.2, jb_0]
        constructor
        · intro e; cases e
        · rintro ⟨t, j, x1, rfl, x3, -⟩
          rw [ad_bn] at x3
          exact absurd (hbt.mpr x3) w
    · rw [hbe r z]
      have := q4 r (by omega) rfl k
      have this : jb (be r) k = true ↔ ∃ t j, t < mx_n T ∧ t = r ∧ mx_bu T t = true ∧ j < 3 ∧ mx_pl T j t = some k := this
      rw [this]
      constructor
      · rintro ⟨t, j, x1, x2, x3, x4, x5⟩
        exact ⟨t, j, by omega, x2, by rw [ad_b x1]; exact x3, x4, by rw [ad_p x1]; exact x5⟩
      · rintro ⟨t, j, x1, x2, x3, x4, x5⟩
        have hlt : t < mx_n T := Nat.lt_of_le_of_ne (Nat.le_of_lt_succ x1) (fun e => z (x2.symm.trans e))
        rw [ad_b hlt] at x3
        rw [ad_p hlt] at x5
        exact ⟨t, j, hlt, x2, x3, x4, x5⟩
  · have hr : r < mx_n T + 1 := hr
    by_cases z : r = mx_n T
    · subst z
      show ((if mx_n T = mx_n T then (if b = true then some s else none) else bb (mx_n T)) = none → _) ∧ ∀ x, (if mx_n T = mx_n T then (if b = true then some s else none) else bb (mx_n T)) = some x → _
      rw [if_pos rfl]
      cases b with
      | false =>
        refine ⟨fun _ t ht e => ?_, fun x e => by cases e⟩
        have e : t = mx_n T := e
        rw [e, ad_bn]
      | true =>
        refine ⟨fun e => (by cases e), fun x e => ?_⟩
        have e : some s = some x := e
        cases e
        exact ⟨mx_n T, show mx_n T < mx_n T + 1 by omega, rfl, ad_bn _ _ _ _ _ _, ad_sn _ _ _ _ _ _⟩
    · show ((if r = mx_n T then (if b = true then some s else none) else bb r) = none → _) ∧ ∀ x, (if r = mx_n T then (if b = true then some s else none) else bb r) = some x → _
      rw [if_neg z]
      obtain ⟨c1, c2⟩ := q5 r (by omega) rfl
      refine ⟨fun e t ht et => ?_, fun x e => ?_⟩
      · have et : t = r := et
        subst et
        rw [ad_b (by omega)]
        exact c1 e t (by omega) rfl
      · obtain ⟨t, x1, x2, x3, x4⟩ := c2 x e
        exact ⟨t, show t < mx_n T + 1 by omega, x2, by rw [ad_b x1]; exact x3, by rw [ad_s x1]; exact x4⟩
  · have e : t = u := e
    rw [e]
  · have hr : r < mx_n T + 1 := hr
    by_cases z : r = mx_n T
    · subst z
      show bd2 (mx_n T) = mx_enc (if mx_n T = mx_n T then (if b = true then some s else none) else bb (mx_n T)) ∧ ∀ x, (if mx_n T = mx_n T then (if b = true then some s else none) else bb (mx_n T)) = some x → x < 64
      rw [if_pos rfl]
      by_cases w : jb bu (mx_n T) = true
      · rw [show bd2 = upd bd (mx_n T) (nI s) from (hq.1 w).2, pk_us, hbt.mp w]
        exact ⟨rfl, fun x e => by cases (show some s = some x from e); omega⟩
      · have bf : b = false := ts_nt (fun e => w (hbt.mpr e))
        rw [show bd2 = upd bd (mx_n T) (-1) from (hq.2 w).2, pk_us, bf]
        exact ⟨rfl, fun x e => by cases e⟩
    · show bd2 r = mx_enc (if r = mx_n T then (if b = true then some s else none) else bb r) ∧ ∀ x, (if r = mx_n T then (if b = true then some s else none) else bb r) = some x → x < 64
      rw [if_neg z, hbd r z]
      exact r3 r (by omega)
  · have ht : mx_n T + 1 ≤ t := ht
    have zt := z0 t (by omega) ht2
    rw [us_ne (fun k e => by have := ha k e; omega), us_ne (fun k e => by have := hb k e; omega), us_ne (fun k e => by have := hc k e; omega), hbe t (by omega)]
    exact zt
/-- places as three ints: what term takes -/
theorem tp_enc {n : Nat} (hn : n ≤ 60) {a b c sec thr : Int32} (e1 : sec = if a = -1 then -1 else b) (e2 : thr = if sec = -1 then -1 else c) : ((a = -1 ∨ ix n a) ∧ (sec = -1 ∨ ix n sec) ∧ (thr = -1 ∨ ix n thr)) ↔ ∃ qa qb qc, tp_ok n a b c qa qb qc ∧ a = mx_enc qa ∧ sec = mx_enc qb ∧ thr = mx_enc qc := by
  have m1 : ∀ {x : Nat}, x < n → ¬ nI x = -1 := fun hx => nI_m1 (by omega)
  constructor
  · rintro ⟨ha, hb, hc⟩
    rcases ha with rfl | ⟨x, hx, rfl⟩
    · rw [if_pos rfl] at e1
      rw [if_pos e1] at e2
      exact ⟨none, none, none, Or.inl ⟨rfl, rfl, rfl, rfl⟩, rfl, e1, e2⟩
    · rw [if_neg (m1 hx)] at e1
      subst e1
      rcases hb with rfl | ⟨y, hy, rfl⟩
      · rw [if_pos rfl] at e2
        exact ⟨some x, none, none, Or.inr (Or.inl ⟨x, hx, rfl, rfl, rfl, rfl, rfl⟩), rfl, rfl, e2⟩
      · rw [if_neg (m1 hy)] at e2
        subst e2
        rcases hc with rfl | ⟨z, hz, rfl⟩
        · exact ⟨some x, some y, none, Or.inr (Or.inr (Or.inl ⟨x, y, hx, hy, rfl, rfl, rfl, rfl, rfl, rfl⟩)), rfl, rfl, rfl⟩
        · exact ⟨some x, some y, some z, Or.inr (Or.inr (Or.inr ⟨x, y, z, hx, hy, hz, rfl, rfl, rfl, rfl, rfl, rfl⟩)), rfl, rfl, rfl⟩
  · rintro ⟨qa, qb, qc, h, ha, hb, hc⟩
    obtain ⟨i1, i2, i3, -, -⟩ := tp_in h
    have key : ∀ {q : Option Nat} {v : Int32}, (∀ k, q = some k → k < n) → v = mx_enc q → v = -1 ∨ ix n v := fun {q v} hq e => by
      cases q with
      | none => exact Or.inl e
      | some k => exact Or.inr ⟨k, hq k rfl, e⟩
    exact ⟨key i1 ha, key i2 hb, key i3 hc⟩
theorem tp_conv {n : Nat} (hn : n ≤ 60) {a b c sec thr : Int32} (e1 : sec = if a = -1 then -1 else b) (e2 : thr = if sec = -1 then -1 else c) {qa qb qc : Option Nat} (h : tp_ok n a b c qa qb qc) : a = mx_enc qa ∧ sec = mx_enc qb ∧ thr = mx_enc qc := by
  have m1 : ∀ {x : Nat}, x < n → ¬ nI x = -1 := fun hx => nI_m1 (by omega)
  rcases h with ⟨rfl, rfl, rfl, rfl⟩ | ⟨x, hx, rfl, rfl, rfl, rfl, rfl⟩ | ⟨x, y, hx, hy, rfl, rfl, rfl, rfl, rfl, rfl⟩ | ⟨x, y, z, hx, hy, hz, rfl, rfl, rfl, rfl, rfl, rfl⟩
  · rw [if_pos rfl] at e1
    rw [if_pos e1] at e2
    exact ⟨rfl, e1, e2⟩
  · rw [if_neg (m1 hx)] at e1
    rw [if_pos e1] at e2
    exact ⟨rfl, e1, e2⟩
  · rw [if_neg (m1 hx)] at e1
    rw [e1, if_neg (m1 hy)] at e2
    exact ⟨rfl, e1, e2⟩
  · rw [if_neg (m1 hx)] at e1
    rw [e1, if_neg (m1 hy)] at e2
    exact ⟨rfl, e1, e2⟩
theorem cp_q {n : Nat} (hn : n ≤ 60) {qa qb qc : Option Nat} (ha : ∀ k, qa = some k → k < n) (hb : ∀ k, qb = some k → k < n) (hc : ∀ k, qc = some k → k < n) : cp_of (mx_enc qa) (mx_enc qb) (mx_enc qc) = q_ar qa qb qc := by
  have m1 : ∀ {x : Nat}, x < n → ¬ nI x = -1 := fun hx => nI_m1 (by omega)
  unfold cp_of
  cases qa with
  | none => rfl
  | some x =>
    rw [if_neg (show ¬ mx_enc (some x) = -1 from m1 (ha x rfl))]
    cases qb with
    | none => rfl
    | some y =>
      rw [if_neg (show ¬ mx_enc (some y) = -1 from m1 (hb y rfl))]
      cases qc with
      | none => rfl
      | some z => rw [if_neg (show ¬ mx_enc (some z) = -1 from m1 (hc z rfl))]; rfl
/-- of one sign with these places: the bits that alike answers with names that are the terms themselves -/
theorem ap_is {T : mx_T} (hw : mx_wf T) (hpf : mx_pf T) {nm : Nat → Int32} {me fu su tu be : Nat → Int64} {bd : Nat → Int32} {mi : Int32} (h : rk_ok T (fun t => t) nm me fu su tu be bd mi) {sg fa fb fc : Nat → Int32} {os : Nat → Int64} (htm : tm_ok T sg fa fb fc os) {s : Nat} (hs : s < 16) {qa qb qc : Option Nat} (ha : ∀ k, qa = some k → k < mx_n T) (hb : ∀ k, qb = some k → k < mx_n T) (hc : ∀ k, qc = some k → k < mx_n T) (h1 : qa = none → qb = none) (h2 : qb = none → qc = none) (hm : ¬ te_mis T s qa qb qc) (i : Nat) :
    (jb (os s) i && al_1 fu (fun t => t) qa i && al_1 su (fun t => t) qb i && al_1 tu (fun t => t) qc i) = true ↔ i < mx_n T ∧ te_is T s qa qb qc i := by
  obtain ⟨-, b, mixed, ⟨-, -, q3, -⟩, -⟩ := h
  have key : ∀ (F : Nat → Int64) (q : Option Nat) (j : Nat), j < 3 → (∀ k, q = some k → k < mx_n T) → (∀ r, r < mx_n T → ∀ t, jb (F r) t = true ↔ t < mx_n T ∧ ∃ k, mx_pl T j t = some k ∧ k = r) → i < mx_n T → (q = none → mx_pl T j i = none) → (al_1 F (fun t => t) q i = true ↔ mx_pl T j i = q) := by
    intro F q j hj hq hF hi hno
    cases q with
    | none => exact ⟨fun _ => hno rfl, fun _ => rfl⟩
    | some k =>
      show jb (F k) i = true ↔ _
      rw [hF k (hq k rfl) i]
      exact ⟨fun ⟨_, x, x1, x2⟩ => by rw [x1, x2], fun e => ⟨hi, k, e, rfl⟩⟩
  have har : ∀ i, i < mx_n T → mx_sg T i = s → mx_ar (mx_pl T) i = q_ar qa qb qc := fun i hi e => Classical.byContradiction fun z => hm ⟨i, hi, e, z⟩
  have hno : i < mx_n T → mx_sg T i = s → (qa = none → mx_pl T 0 i = none) ∧ (qb = none → mx_pl T 1 i = none) ∧ (qc = none → mx_pl T 2 i = none) := fun hi e => by
    have hr := har i hi e
    refine ⟨fun z => (mx_ar_iff hpf hi (by omega)).mpr ?_, fun z => (mx_ar_iff hpf hi (by omega)).mpr ?_, fun z => (mx_ar_iff hpf hi (by omega)).mpr ?_⟩
    · rw [hr, z]; exact Nat.le_refl 0
    · rw [hr, z]; cases qa <;> simp [q_ar]
    · rw [hr, z]; cases qa <;> cases qb <;> simp [q_ar]
  simp only [Bool.and_eq_true]
  constructor
  · rintro ⟨⟨⟨x1, x2⟩, x3⟩, x4⟩
    obtain ⟨hi, e⟩ := (htm.2 s hs i).mp x1
    obtain ⟨n0, n1, n2⟩ := hno hi e
    exact ⟨hi, e, (key fu qa 0 (by omega) ha (fun r hr => q3 0 r (by omega) hr rfl) hi n0).mp x2, (key su qb 1 (by omega) hb (fun r hr => q3 1 r (by omega) hr rfl) hi n1).mp x3, (key tu qc 2 (by omega) hc (fun r hr => q3 2 r (by omega) hr rfl) hi n2).mp x4⟩
  · rintro ⟨hi, e, p0, p1, p2⟩
    obtain ⟨n0, n1, n2⟩ := hno hi e
    exact ⟨⟨⟨(htm.2 s hs i).mpr ⟨hi, e⟩, (key fu qa 0 (by omega) ha (fun r hr => q3 0 r (by omega) hr rfl) hi n0).mpr p0⟩, (key su qb 1 (by omega) hb (fun r hr => q3 1 r (by omega) hr rfl) hi n1).mpr p1⟩, (key tu qc 2 (by omega) hc (fun r hr => q3 2 r (by omega) hr rfl) hi n2).mpr p2⟩
/-- as many roots as rows -/
theorem mx_cnt_inj {q : Nat → Bool} {n : Nat} (f : Nat → Nat) : ∀ (m : Nat) (p q : Nat → Bool), (∀ i, i < m → p i = true → f i < n ∧ q (f i) = true) → (∀ i j, i < m → j < m → p i = true → p j = true → f i = f j → i = j) → mx_cnt p m ≤ mx_cnt q n
  | 0, p, q, _, _ => Nat.zero_le _
  | m + 1, p, q, h1, h2 => by
    rw [mx_cnt_s]
    by_cases z : p m = true
    · rw [if_pos z]
      obtain ⟨a1, a2⟩ := h1 m (by omega) z
      have e := mx_cnt_drop (p := q) (q := fun i => (q i && decide (i ≠ f m))) (g := f m) (n := n) (fun _ _ => rfl) a1 a2
      have := mx_cnt_inj (q := q) f m p (fun i => (q i && decide (i ≠ f m))) (fun i hi hp => by
        obtain ⟨b1, b2⟩ := h1 i (by omega) hp
        refine ⟨b1, ?_⟩
        rw [b2, Bool.true_and]
        exact decide_eq_true (fun e => by have := h2 i m (by omega) (by omega) hp z e; omega)) (fun i j hi hj => h2 i j (by omega) (by omega))
      omega
    · rw [if_neg z]
      have := mx_cnt_inj (q := q) f m p q (fun i hi => h1 i (by omega)) (fun i j hi hj => h2 i j (by omega) (by omega))
      omega
theorem ro_cnt {T : mx_T} {nn : Nat → Nat} (h : ∀ t, t < mx_n T → nn t < mx_n T ∧ nn (nn t) = nn t) : mx_cnt (fun t => decide (nn t = t)) (mx_n T) = ro_n T nn := by
  have lst : ∀ x, x < mx_n T → ∃ k, mx_least (fun y => y < mx_n T ∧ nn y = nn x) k := fun x hx => by
    obtain ⟨k, hk, -⟩ := mx_least_ex (P := fun y => y < mx_n T ∧ nn y = nn x) (i := x) ⟨hx, rfl⟩
    exact ⟨k, hk⟩
  obtain ⟨f, hf⟩ : ∃ f : Nat → Nat, ∀ x, x < mx_n T → mx_least (fun y => y < mx_n T ∧ nn y = nn x) (f x) := by
    have : ∀ x, ∃ k, x < mx_n T → mx_least (fun y => y < mx_n T ∧ nn y = nn x) k := fun x => by
      by_cases hx : x < mx_n T
      · obtain ⟨k, hk⟩ := lst x hx; exact ⟨k, fun _ => hk⟩
      · exact ⟨0, fun z => absurd z hx⟩
    obtain ⟨f, hf⟩ := Classical.axiomOfChoice this
    exact ⟨f, hf⟩
  refine Nat.le_antisymm ?_ ?_
  · refine mx_cnt_inj (q := fun _ => true) f (mx_n T) _ _ (fun i hi hp => ?_) (fun i j hi hj p1 p2 e => ?_)
    · obtain ⟨⟨c1, c2⟩, c3⟩ := hf i hi
      refine ⟨c1, decide_eq_true (fun z hz e => c3 z hz ⟨by omega, e.trans c2⟩)⟩
    · have c1 := (hf i hi).1.2
      have c2 := (hf j hj).1.2
      rw [e] at c1
      have p1 : nn i = i := of_decide_eq_true p1
      have p2 : nn j = j := of_decide_eq_true p2
      rw [← p1, ← p2, ← c1, c2]
  · refine mx_cnt_inj (q := fun _ => true) nn (mx_n T) _ _ (fun i hi hp => ⟨(h i hi).1, decide_eq_true (h i hi).2⟩) (fun i j hi hj p1 p2 e => ?_)
    have p1 : ∀ z, z < i → nn z ≠ nn i := of_decide_eq_true p1
    have p2 : ∀ z, z < j → nn z ≠ nn j := of_decide_eq_true p2
    rcases Nat.lt_trichotomy i j with z | z | z
    · exact absurd e (p2 i z)
    · exact z
    · exact absurd e.symm (p1 j z)
