/-! PURE: terms, relations closed under what they are made of, and rows -/
/-- terms: how many; sign; term in place j; whether the sign builds -/
abbrev mx_T : Type := Nat × (Nat → Nat) × (Nat → Nat → Option Nat) × (Nat → Bool)
abbrev mx_n (T : mx_T) : Nat := T.1
abbrev mx_sg (T : mx_T) : Nat → Nat := T.2.1
abbrev mx_pl (T : mx_T) : Nat → Nat → Option Nat := T.2.2.1
abbrev mx_bu (T : mx_T) : Nat → Bool := T.2.2.2
/-- a sign has as many places in each term, and builds in each or none; places come ahead -/
def mx_wf (T : mx_T) : Prop :=
  (∀ t j k, t < mx_n T → mx_pl T j t = some k → k < t) ∧
  (∀ t u j, t < mx_n T → u < mx_n T → mx_sg T t = mx_sg T u → (mx_pl T j t = none ↔ mx_pl T j u = none)) ∧
  (∀ t u, t < mx_n T → u < mx_n T → mx_sg T t = mx_sg T u → mx_bu T t = mx_bu T u)
/-- two places: both without, or their terms related -/
def mx_pr (R : Nat → Nat → Prop) : Option Nat → Option Nat → Prop
  | none, none => True
  | some a, some b => R a b
  | none, some _ => False
  | some _, none => False
theorem mx_pr.mono {R S : Nat → Nat → Prop} (h : ∀ a b, R a b → S a b) : ∀ {x y : Option Nat}, mx_pr R x y → mx_pr S x y
  | none, none, _ => trivial
  | some _, some _, q => h _ _ q
  | none, some _, q => q.elim
  | some _, none, q => q.elim
theorem mx_pr.sym {R : Nat → Nat → Prop} (h : ∀ a b, R a b → R b a) : ∀ {x y : Option Nat}, mx_pr R x y → mx_pr R y x
  | none, none, _ => trivial
  | some _, some _, q => h _ _ q
  | none, some _, q => q.elim
  | some _, none, q => q.elim
theorem mx_pr.trans {R : Nat → Nat → Prop} (h : ∀ a b c, R a b → R b c → R a c) : ∀ {x y z : Option Nat}, mx_pr R x y → mx_pr R y z → mx_pr R x z
  | none, none, none, _, _ => trivial
  | some _, some _, some _, q, r => h _ _ _ q r
  | none, some _, _, q, _ => q.elim
  | some _, none, _, q, _ => q.elim
  | none, none, some _, _, r => r.elim
  | some _, some _, none, _, r => r.elim
/-- closed: an equivalence of the terms; of like places like terms; a builder's like terms have like places -/
def mx_cl (T : mx_T) (R : Nat → Nat → Prop) : Prop :=
  (∀ a, a < mx_n T → R a a) ∧ (∀ a b, R a b → R b a) ∧ (∀ a b c, R a b → R b c → R a c) ∧
  (∀ a b, a < mx_n T → b < mx_n T → mx_sg T a = mx_sg T b → (∀ j, j < 3 → mx_pr R (mx_pl T j a) (mx_pl T j b)) → R a b) ∧
  (∀ a b, a < mx_n T → b < mx_n T → mx_sg T a = mx_sg T b → mx_bu T a = true → R a b → ∀ j, j < 3 → mx_pr R (mx_pl T j a) (mx_pl T j b))
/-- what E makes one -/
def mx_one (T : mx_T) (E : Nat → Nat → Prop) (a b : Nat) : Prop := ∀ R : Nat → Nat → Prop, mx_cl T R → (∀ x y, E x y → R x y) → R a b
/-- one by name -/
def mx_r (n : Nat) (nm : Nat → Nat) (a b : Nat) : Prop := a < n ∧ b < n ∧ nm a = nm b
theorem mx_r.sym {n : Nat} {nm : Nat → Nat} (a b : Nat) (h : mx_r n nm a b) : mx_r n nm b a := ⟨h.2.1, h.1, h.2.2.symm⟩
theorem mx_r.trans {n : Nat} {nm : Nat → Nat} (a b c : Nat) (h : mx_r n nm a b) (k : mx_r n nm b c) : mx_r n nm a c := ⟨h.1, k.2.1, h.2.2.trans k.2.2⟩
/-- the names are what E makes one -/
def mx_lst (T : mx_T) (E : Nat → Nat → Prop) (nm : Nat → Nat) : Prop :=
  mx_cl T (mx_r (mx_n T) nm) ∧ (∀ x y, E x y → mx_r (mx_n T) nm x y) ∧
  ∀ R : Nat → Nat → Prop, mx_cl T R → (∀ x y, E x y → R x y) → ∀ a b, mx_r (mx_n T) nm a b → R a b
theorem mx_lst.one {T : mx_T} {E : Nat → Nat → Prop} {nm : Nat → Nat} (h : mx_lst T E nm) {a b : Nat} (ha : a < mx_n T) (hb : b < mx_n T) : nm a = nm b ↔ mx_one T E a b :=
  ⟨fun e R hR hE => h.2.2 R hR hE a b ⟨ha, hb, e⟩, fun q => (q _ h.1 h.2.1).2.2⟩
/-- alike: of t's sign, the places' terms one -/
def mx_al (T : mx_T) (nm : Nat → Nat) (t u : Nat) : Prop := u < mx_n T ∧ mx_sg T u = mx_sg T t ∧ ∀ j, j < 3 → mx_pr (mx_r (mx_n T) nm) (mx_pl T j t) (mx_pl T j u)
/-- in t's row, of its sign -/
def mx_in (T : mx_T) (nm : Nat → Nat) (t u : Nat) : Prop := u < mx_n T ∧ mx_sg T u = mx_sg T t ∧ nm u = nm t
def mx_okA (T : mx_T) (nm : Nat → Nat) (t : Nat) : Prop := ∀ L, mx_least (mx_al T nm t) L → nm t = nm L
def mx_okB (T : mx_T) (nm : Nat → Nat) (t : Nat) : Prop := mx_bu T t = true → ∀ L, mx_least (mx_in T nm t) L → ∀ j, j < 3 → mx_pr (mx_r (mx_n T) nm) (mx_pl T j t) (mx_pl T j L)
theorem mx_pr_self {T : mx_T} (hw : mx_wf T) {nm : Nat → Nat} {t : Nat} (ht : t < mx_n T) (j : Nat) : mx_pr (mx_r (mx_n T) nm) (mx_pl T j t) (mx_pl T j t) := by
  cases h : mx_pl T j t with
  | none => trivial
  | some k =>
    have := hw.1 t j k ht h
    exact ⟨by omega, by omega, rfl⟩
theorem mx_al_self {T : mx_T} (hw : mx_wf T) {nm : Nat → Nat} {t : Nat} (ht : t < mx_n T) : mx_al T nm t t := ⟨ht, rfl, fun j _ => mx_pr_self hw ht j⟩
theorem mx_al_iff {T : mx_T} {nm : Nat → Nat} {t u : Nat} (h : mx_al T nm t u) (x : Nat) : mx_al T nm t x ↔ mx_al T nm u x := by
  constructor
  · rintro ⟨h1, h2, h3⟩
    exact ⟨h1, h2.trans h.2.1.symm, fun j hj => mx_pr.trans mx_r.trans (mx_pr.sym mx_r.sym (h.2.2 j hj)) (h3 j hj)⟩
  · rintro ⟨h1, h2, h3⟩
    exact ⟨h1, h2.trans h.2.1, fun j hj => mx_pr.trans mx_r.trans (h.2.2 j hj) (h3 j hj)⟩
/-- all looked at: closed -/
theorem mx_fin {T : mx_T} (hw : mx_wf T) {nm : Nat → Nat} (h : ∀ t, t < mx_n T → mx_okA T nm t ∧ mx_okB T nm t) : mx_cl T (mx_r (mx_n T) nm) := by
  refine ⟨fun a ha => ⟨ha, ha, rfl⟩, mx_r.sym, mx_r.trans, ?_, ?_⟩
  · intro a b ha hb hs hp
    have hal : mx_al T nm a b := ⟨hb, hs.symm, hp⟩
    obtain ⟨L, hL, -⟩ := mx_least_ex (P := mx_al T nm a) (mx_al_self hw ha)
    have hL2 : mx_least (mx_al T nm b) L := ⟨(mx_al_iff hal L).mp hL.1, fun j hj q => hL.2 j hj ((mx_al_iff hal j).mpr q)⟩
    exact ⟨ha, hb, ((h a ha).1 L hL).trans ((h b hb).1 L hL2).symm⟩
  · intro a b ha hb hs hbu hr j hj
    obtain ⟨L, hL, -⟩ := mx_least_ex (P := mx_in T nm a) (i := a) ⟨ha, rfl, rfl⟩
    have he : ∀ x, mx_in T nm a x ↔ mx_in T nm b x := fun x => by
      unfold mx_in
      rw [hs, hr.2.2]
    have hL2 : mx_least (mx_in T nm b) L := ⟨(he L).mp hL.1, fun i hi q => hL.2 i hi ((he i).mpr q)⟩
    have hbu2 : mx_bu T b = true := by rw [← hw.2.2 a b ha hb hs]; exact hbu
    exact mx_pr.trans mx_r.trans ((h a ha).2 hbu L hL j hj) (mx_pr.sym mx_r.sym ((h b hb).2 hbu2 L hL2 j hj))
/-- closed: nothing is to be looked at -/
theorem mx_okOf {T : mx_T} {nm : Nat → Nat} (h : mx_cl T (mx_r (mx_n T) nm)) {t : Nat} (ht : t < mx_n T) : mx_okA T nm t ∧ mx_okB T nm t :=
  ⟨fun L hL => (h.2.2.2.1 t L ht hL.1.1 hL.1.2.1.symm hL.1.2.2).2.2, fun hb L hL j hj => h.2.2.2.2 t L ht hL.1.1 hL.1.2.1.symm hb ⟨ht, hL.1.1, hL.1.2.2.symm⟩ j hj⟩
/-- names and the unlooked-at, some joins later -/
def mx_ext (T : mx_T) (nm : Nat → Nat) (un : Nat → Bool) (nm' : Nat → Nat) (un' : Nat → Bool) : Prop :=
  (∀ x y, x < mx_n T → y < mx_n T → nm x = nm y → nm' x = nm' y) ∧ (∀ t, un t = true → un' t = true) ∧
  (∀ t j k x, t < mx_n T → un' t = false → j < 3 → mx_pl T j t = some k → x < mx_n T → nm' x = nm' k → nm x = nm k) ∧
  (∀ t x, t < mx_n T → un' t = false → mx_bu T t = true → x < mx_n T → nm' x = nm' t → nm x = nm t)
theorem mx_ext.rf {T : mx_T} {nm : Nat → Nat} {un : Nat → Bool} : mx_ext T nm un nm un :=
  ⟨fun _ _ _ _ h => h, fun _ h => h, fun _ _ _ _ _ _ _ _ _ h => h, fun _ _ _ _ _ _ h => h⟩
theorem mx_unF {un un' : Nat → Bool} (h : ∀ t, un t = true → un' t = true) {t : Nat} (ht : un' t = false) : un t = false := by
  cases hu : un t with
  | false => rfl
  | true => rw [h t hu] at ht; cases ht
theorem mx_ext.tr {T : mx_T} {nm nm' nm2 : Nat → Nat} {un un' un2 : Nat → Bool} (h : mx_ext T nm un nm' un') (k : mx_ext T nm' un' nm2 un2) : mx_ext T nm un nm2 un2 :=
  ⟨fun x y hx hy e => k.1 x y hx hy (h.1 x y hx hy e), fun t e => k.2.1 t (h.2.1 t e),
   fun t j q x ht hu hj hq hx e => h.2.2.1 t j q x ht (mx_unF k.2.1 hu) hj hq hx (k.2.2.1 t j q x ht hu hj hq hx e),
   fun t x ht hu hb hx e => h.2.2.2 t x ht (mx_unF k.2.1 hu) hb hx (k.2.2.2 t x ht hu hb hx e)⟩
theorem mx_ext.r {T : mx_T} {nm nm' : Nat → Nat} {un un' : Nat → Bool} (h : mx_ext T nm un nm' un') (a b : Nat) (q : mx_r (mx_n T) nm a b) : mx_r (mx_n T) nm' a b := ⟨q.1, q.2.1, h.1 a b q.1 q.2.1 q.2.2⟩
theorem mx_ext.al {T : mx_T} (hw : mx_wf T) {nm nm' : Nat → Nat} {un un' : Nat → Bool} (h : mx_ext T nm un nm' un') {t : Nat} (ht : t < mx_n T) (hu : un' t = false) (x : Nat) : mx_al T nm' t x ↔ mx_al T nm t x := by
  constructor
  · rintro ⟨h1, h2, h3⟩
    refine ⟨h1, h2, fun j hj => ?_⟩
    have h4 := h3 j hj
    cases ht1 : mx_pl T j t with
    | none =>
      rw [ht1] at h4
      cases hx1 : mx_pl T j x with
      | none => trivial
      | some b => rw [hx1] at h4; exact h4.elim
    | some a =>
      rw [ht1] at h4
      cases hx1 : mx_pl T j x with
      | none => rw [hx1] at h4; exact h4.elim
      | some b =>
        rw [hx1] at h4
        exact ⟨h4.1, h4.2.1, (h.2.2.1 t j a b ht hu hj ht1 h4.2.1 h4.2.2.symm).symm⟩
  · rintro ⟨h1, h2, h3⟩
    exact ⟨h1, h2, fun j hj => mx_pr.mono h.r (h3 j hj)⟩
theorem mx_ext.inn {T : mx_T} {nm nm' : Nat → Nat} {un un' : Nat → Bool} (h : mx_ext T nm un nm' un') {t : Nat} (ht : t < mx_n T) (hu : un' t = false) (hb : mx_bu T t = true) (x : Nat) : mx_in T nm' t x ↔ mx_in T nm t x := by
  constructor
  · rintro ⟨h1, h2, h3⟩
    exact ⟨h1, h2, h.2.2.2 t x ht hu hb h1 h3⟩
  · rintro ⟨h1, h2, h3⟩
    exact ⟨h1, h2, h.1 x t h1 ht h3⟩
theorem mx_least_to {P Q : Nat → Prop} {L : Nat} (h : mx_least P L) (e : ∀ i, P i ↔ Q i) : mx_least Q L := ⟨(e L).mp h.1, fun j hj q => h.2 j hj ((e j).mpr q)⟩
/-- a term that isn't to be looked at stays so -/
theorem mx_ext.ok {T : mx_T} (hw : mx_wf T) {nm nm' : Nat → Nat} {un un' : Nat → Bool} (h : mx_ext T nm un nm' un') {t : Nat} (ht : t < mx_n T) (hu : un' t = false) (k : mx_okA T nm t ∧ mx_okB T nm t) : mx_okA T nm' t ∧ mx_okB T nm' t := by
  refine ⟨fun L hL => ?_, fun hb L hL j hj => ?_⟩
  · have hL2 := mx_least_to hL (h.al hw ht hu)
    exact h.1 t L ht hL2.1.1 (k.1 L hL2)
  · have hL2 := mx_least_to hL (h.inn ht hu hb)
    exact mx_pr.mono h.r (k.2 hb L hL2 j hj)
/-- the term that was looked at: joined with the least alike, then (a builder's) its places with those of the least of its row -/
theorem mx_looked {T : mx_T} (hw : mx_wf T) {nm nm1 nm2 : Nat → Nat} {un un1 un2 : Nat → Bool} {t L : Nat} (ht : t < mx_n T) (hL : mx_least (mx_al T nm t) L) (h1 : mx_ext T nm un nm1 un1) (e1 : nm1 t = nm1 L) (h2 : mx_ext T nm1 un1 nm2 un2)
    (hB : mx_bu T t = true → ∃ K, mx_least (mx_in T nm1 t) K ∧ ∀ j, j < 3 → mx_pr (mx_r (mx_n T) nm2) (mx_pl T j t) (mx_pl T j K)) (hu : un2 t = false) : mx_okA T nm2 t ∧ mx_okB T nm2 t := by
  have hu1 := mx_unF h2.2.1 hu
  refine ⟨fun M hM => ?_, fun hb M hM j hj => ?_⟩
  · have h12 := h1.tr h2
    have hM2 := mx_least_to hM (h12.al hw ht hu)
    have : M = L := mx_least_eq hM2 hL (fun _ => Iff.rfl)
    subst this
    exact h2.1 t M ht hL.1.1 e1
  · obtain ⟨K, hK, hp⟩ := hB hb
    have hM2 := mx_least_to hM (h2.inn ht hu hb)
    have : M = K := mx_least_eq hM2 hK (fun _ => Iff.rfl)
    subst this
    exact hp j hj
/-- THE ROWS: names, members, users by place, what is below, builders, whether two builders stand in one row -/
def mx_rows (T : mx_T) (nm : Nat → Nat) (M : Nat → Nat → Bool) (U : Nat → Nat → Nat → Bool) (B : Nat → Nat → Bool) (bd : Nat → Option Nat) (mixed : Bool) : Prop :=
  (∀ t, t < mx_n T → nm t < mx_n T ∧ nm (nm t) = nm t) ∧
  (∀ r, r < mx_n T → nm r = r → ∀ t, M r t = true ↔ t < mx_n T ∧ nm t = r) ∧
  (∀ j r, j < 3 → r < mx_n T → nm r = r → ∀ t, U j r t = true ↔ t < mx_n T ∧ ∃ k, mx_pl T j t = some k ∧ nm k = r) ∧
  (∀ r, r < mx_n T → nm r = r → ∀ k, B r k = true ↔ ∃ t j, t < mx_n T ∧ nm t = r ∧ mx_bu T t = true ∧ j < 3 ∧ mx_pl T j t = some k) ∧
  (∀ r, r < mx_n T → nm r = r → (bd r = none → ∀ t, t < mx_n T → nm t = r → mx_bu T t = false) ∧ ∀ s, bd r = some s → ∃ t, t < mx_n T ∧ nm t = r ∧ mx_bu T t = true ∧ mx_sg T t = s) ∧
  (mixed = false → ∀ t u, t < mx_n T → u < mx_n T → nm t = nm u → mx_bu T t = true → mx_bu T u = true → mx_sg T t = mx_sg T u) ∧
  (mixed = true → ∃ t u, t < mx_n T ∧ u < mx_n T ∧ nm t = nm u ∧ mx_bu T t = true ∧ mx_bu T u = true ∧ mx_sg T t ≠ mx_sg T u)
def mx_mix (a b : Option Nat) : Bool := a.isSome && b.isSome && decide (a ≠ b)
/-- two rows put together -/
theorem mx_join {T : mx_T} (hw : mx_wf T) {nm nm' : Nat → Nat} {M M' : Nat → Nat → Bool} {U U' : Nat → Nat → Nat → Bool} {B B' : Nat → Nat → Bool} {bd bd' : Nat → Option Nat} {mixed mixed' : Bool} {kept gone : Nat}
    (h : mx_rows T nm M U B bd mixed) (hk : kept < mx_n T) (hg : gone < mx_n T) (ek : nm kept = kept) (eg : nm gone = gone) (ne : kept ≠ gone)
    (hn : ∀ t, t < mx_n T → nm' t = if nm t = gone then kept else nm t)
    (hM : ∀ r t, r < mx_n T → M' r t = if r = kept then (M kept t || M gone t) else M r t)
    (hU : ∀ j r t, j < 3 → r < mx_n T → U' j r t = if r = kept then (U j kept t || U j gone t) else U j r t)
    (hB : ∀ r t, r < mx_n T → B' r t = if r = kept then (B kept t || B gone t) else B r t)
    (hb : ∀ r, r < mx_n T → bd' r = if r = kept then (match bd kept with | none => bd gone | some s => some s) else bd r)
    (hx : mixed' = (mixed || mx_mix (bd kept) (bd gone))) : mx_rows T nm' M' U' B' bd' mixed' := by
  obtain ⟨h1, h2, h3, h4, h5, h6, h7⟩ := h
  have hroot : ∀ r, r < mx_n T → nm' r = r → nm r = r ∧ r ≠ gone := by
    intro r hr e
    rw [hn r hr] at e
    by_cases q : nm r = gone
    · rw [if_pos q] at e
      subst e
      exact absurd (ek.symm.trans q) ne
    · rw [if_neg q] at e
      exact ⟨e, fun z => q (by rw [e, z])⟩
  have hcls : ∀ t r, t < mx_n T → r ≠ gone → (nm' t = r ↔ nm t = r ∨ (r = kept ∧ nm t = gone)) := by
    intro t r ht hr
    rw [hn t ht]
    by_cases q : nm t = gone
    · rw [if_pos q]
      constructor
      · intro e; exact Or.inr ⟨e.symm, q⟩
      · rintro (e | ⟨e, -⟩)
        · exact absurd (e.symm.trans q) hr
        · exact e.symm
    · rw [if_neg q]
      constructor
      · intro e; exact Or.inl e
      · rintro (e | ⟨-, e⟩)
        · exact e
        · exact absurd e q
  have hplt : ∀ t j k, t < mx_n T → mx_pl T j t = some k → k < mx_n T := fun t j k ht hp => Nat.lt_trans (hw.1 t j k ht hp) ht
  refine ⟨?_, ?_, ?_, ?_, ?_, ?_, ?_⟩
  · intro t ht
    obtain ⟨a1, a2⟩ := h1 t ht
    by_cases q : nm t = gone
    · have e : nm' t = kept := by rw [hn t ht, if_pos q]
      rw [e]
      refine ⟨hk, ?_⟩
      rw [hn kept hk, ek, if_neg ne]
    · have e : nm' t = nm t := by rw [hn t ht, if_neg q]
      rw [e]
      refine ⟨a1, ?_⟩
      rw [hn _ a1, a2, if_neg q]
  · intro r hr e t
    obtain ⟨e1, e2⟩ := hroot r hr e
    rw [hM r t hr]
    by_cases q : r = kept
    · subst q
      rw [if_pos rfl, Bool.or_eq_true, h2 r hk ek, h2 gone hg eg]
      constructor
      · rintro (⟨a, b⟩ | ⟨a, b⟩)
        · exact ⟨a, (hcls t r a e2).mpr (Or.inl b)⟩
        · exact ⟨a, (hcls t r a e2).mpr (Or.inr ⟨rfl, b⟩)⟩
      · rintro ⟨a, b⟩
        rcases (hcls t r a e2).mp b with c | ⟨-, c⟩
        · exact Or.inl ⟨a, c⟩
        · exact Or.inr ⟨a, c⟩
    · rw [if_neg q, h2 r hr e1]
      constructor
      · rintro ⟨a, b⟩; exact ⟨a, (hcls t r a e2).mpr (Or.inl b)⟩
      · rintro ⟨a, b⟩
        rcases (hcls t r a e2).mp b with c | ⟨c, -⟩
        · exact ⟨a, c⟩
        · exact absurd c q
  · intro j r hj hr e t
    obtain ⟨e1, e2⟩ := hroot r hr e
    rw [hU j r t hj hr]
    by_cases q : r = kept
    · subst q
      rw [if_pos rfl, Bool.or_eq_true, h3 j r hj hk ek, h3 j gone hj hg eg]
      constructor
      · rintro (⟨a, k, b, c⟩ | ⟨a, k, b, c⟩)
        · exact ⟨a, k, b, (hcls k r (hplt t j k a b) e2).mpr (Or.inl c)⟩
        · exact ⟨a, k, b, (hcls k r (hplt t j k a b) e2).mpr (Or.inr ⟨rfl, c⟩)⟩
      · rintro ⟨a, k, b, c⟩
        rcases (hcls k r (hplt t j k a b) e2).mp c with d | ⟨-, d⟩
        · exact Or.inl ⟨a, k, b, d⟩
        · exact Or.inr ⟨a, k, b, d⟩
    · rw [if_neg q, h3 j r hj hr e1]
      constructor
      · rintro ⟨a, k, b, c⟩; exact ⟨a, k, b, (hcls k r (hplt t j k a b) e2).mpr (Or.inl c)⟩
      · rintro ⟨a, k, b, c⟩
        rcases (hcls k r (hplt t j k a b) e2).mp c with d | ⟨d, -⟩
        · exact ⟨a, k, b, d⟩
        · exact absurd d q
  · intro r hr e k
    obtain ⟨e1, e2⟩ := hroot r hr e
    rw [hB r k hr]
    by_cases q : r = kept
    · subst q
      rw [if_pos rfl, Bool.or_eq_true, h4 r hk ek, h4 gone hg eg]
      constructor
      · rintro (⟨t, j, a, b, c⟩ | ⟨t, j, a, b, c⟩)
        · exact ⟨t, j, a, (hcls t r a e2).mpr (Or.inl b), c⟩
        · exact ⟨t, j, a, (hcls t r a e2).mpr (Or.inr ⟨rfl, b⟩), c⟩
      · rintro ⟨t, j, a, b, c⟩
        rcases (hcls t r a e2).mp b with d | ⟨-, d⟩
        · exact Or.inl ⟨t, j, a, d, c⟩
        · exact Or.inr ⟨t, j, a, d, c⟩
    · rw [if_neg q, h4 r hr e1]
      constructor
      · rintro ⟨t, j, a, b, c⟩; exact ⟨t, j, a, (hcls t r a e2).mpr (Or.inl b), c⟩
      · rintro ⟨t, j, a, b, c⟩
        rcases (hcls t r a e2).mp b with d | ⟨d, -⟩
        · exact ⟨t, j, a, d, c⟩
        · exact absurd d q
  · intro r hr e
    obtain ⟨e1, e2⟩ := hroot r hr e
    rw [hb r hr]
    by_cases q : r = kept
    · subst q
      rw [if_pos rfl]
      obtain ⟨k1, k2⟩ := h5 r hk ek
      obtain ⟨g1, g2⟩ := h5 gone hg eg
      cases hbk : bd r with
      | none =>
        refine ⟨fun z t ht et => ?_, fun s z => ?_⟩
        · rcases (hcls t r ht e2).mp et with d | ⟨-, d⟩
          · exact k1 hbk t ht d
          · exact g1 z t ht d
        · obtain ⟨t, a, b, c⟩ := g2 s z
          exact ⟨t, a, (hcls t r a e2).mpr (Or.inr ⟨rfl, b⟩), c⟩
      | some s0 =>
        refine ⟨fun z => (by cases z), fun s z => ?_⟩
        cases z
        obtain ⟨t, a, b, c⟩ := k2 s0 hbk
        exact ⟨t, a, (hcls t r a e2).mpr (Or.inl b), c⟩
    · rw [if_neg q]
      obtain ⟨k1, k2⟩ := h5 r hr e1
      refine ⟨fun z t ht et => ?_, fun s z => ?_⟩
      · rcases (hcls t r ht e2).mp et with d | ⟨d, -⟩
        · exact k1 z t ht d
        · exact absurd d q
      · obtain ⟨t, a, b, c⟩ := k2 s z
        exact ⟨t, a, (hcls t r a e2).mpr (Or.inl b), c⟩
  · intro hm t u ht hu etu bt bu
    rw [hx, Bool.or_eq_false_iff] at hm
    obtain ⟨hm1, hm2⟩ := hm
    have same := h6 hm1
    have key : ∀ t u, t < mx_n T → u < mx_n T → nm t = kept → nm u = gone → mx_bu T t = true → mx_bu T u = true → mx_sg T t = mx_sg T u := by
      intro t u ht hu et eu bt bu
      obtain ⟨k1, k2⟩ := h5 kept hk ek
      obtain ⟨g1, g2⟩ := h5 gone hg eg
      cases hbk : bd kept with
      | none => rw [k1 hbk t ht et] at bt; cases bt
      | some sk =>
        cases hbg : bd gone with
        | none => rw [g1 hbg u hu eu] at bu; cases bu
        | some s2 =>
          rw [hbk, hbg] at hm2
          have hs : sk = s2 := by
            by_cases z : sk = s2
            · exact z
            · simp [mx_mix, z] at hm2
          obtain ⟨x, x1, x2, x3, x4⟩ := k2 sk hbk
          obtain ⟨y, y1, y2, y3, y4⟩ := g2 s2 hbg
          have e3 := same t x ht x1 (et.trans x2.symm) bt x3
          have e4 := same u y hu y1 (eu.trans y2.symm) bu y3
          rw [e3, e4, x4, y4, hs]
    by_cases q1 : nm t = gone <;> by_cases q2 : nm u = gone
    · exact same t u ht hu (q1.trans q2.symm) bt bu
    · rw [hn t ht, hn u hu, if_pos q1, if_neg q2] at etu
      exact (key u t hu ht etu.symm q1 bu bt).symm
    · rw [hn t ht, hn u hu, if_neg q1, if_pos q2] at etu
      exact key t u ht hu etu q2 bt bu
    · rw [hn t ht, hn u hu, if_neg q1, if_neg q2] at etu
      exact same t u ht hu etu bt bu
  · intro hm
    rw [hx, Bool.or_eq_true] at hm
    have mono : ∀ t u, t < mx_n T → u < mx_n T → nm t = nm u → nm' t = nm' u := fun t u ht hu e => by rw [hn t ht, hn u hu, e]
    rcases hm with hm | hm
    · obtain ⟨t, u, ht, hu, e, r⟩ := h7 hm
      exact ⟨t, u, ht, hu, mono t u ht hu e, r⟩
    · cases hbk : bd kept with
      | none => rw [hbk] at hm; simp [mx_mix] at hm
      | some sk =>
        cases hbg : bd gone with
        | none => rw [hbg] at hm; simp [mx_mix] at hm
        | some s2 =>
          rw [hbk, hbg] at hm
          have hs : sk ≠ s2 := by
            intro z
            subst z
            simp [mx_mix] at hm
          obtain ⟨x, x1, x2, x3, x4⟩ := (h5 kept hk ek).2 sk hbk
          obtain ⟨y, y1, y2, y3, y4⟩ := (h5 gone hg eg).2 s2 hbg
          refine ⟨x, y, x1, y1, ?_, x3, y3, by rw [x4, y4]; exact hs⟩
          rw [hn x x1, hn y y1, x2, y2, if_neg ne, if_pos rfl]
/-- what a join does to names and to what is to be looked at -/
theorem mx_join_ext {T : mx_T} {nm nm' : Nat → Nat} {M : Nat → Nat → Bool} {U : Nat → Nat → Nat → Bool} {B : Nat → Nat → Bool} {bd : Nat → Option Nat} {mixed : Bool} {un un' : Nat → Bool} {kept gone : Nat} (hw : mx_wf T)
    (h : mx_rows T nm' M U B bd mixed) (hk : kept < mx_n T) (ek : nm' kept = kept)
    (hn : ∀ t, t < mx_n T → nm' t = if nm t = gone then kept else nm t)
    (hu : ∀ t, un' t = (un t || (U 0 kept t || U 1 kept t || U 2 kept t) || (M kept t && mx_bu T t))) : mx_ext T nm un nm' un' := by
  obtain ⟨-, h2, h3, -⟩ := h
  have back : ∀ x y, x < mx_n T → y < mx_n T → nm' x = nm' y → nm' y ≠ kept → nm x = nm y := by
    intro x y hx hy e ne
    have e2 : nm' x ≠ kept := by rw [e]; exact ne
    rw [hn y hy] at ne e
    rw [hn x hx] at e2 e
    by_cases q1 : nm x = gone
    · rw [if_pos q1] at e2; exact absurd rfl e2
    · by_cases q2 : nm y = gone
      · rw [if_pos q2] at ne; exact absurd rfl ne
      · rw [if_neg q1, if_neg q2] at e; exact e
  refine ⟨fun x y hx hy e => by rw [hn x hx, hn y hy, e], fun t e => by rw [hu t, e]; simp, ?_, ?_⟩
  · intro t j k x ht hf hj hp hx e
    refine back x k hx (Nat.lt_trans (hw.1 t j k ht hp) ht) e (fun z => ?_)
    have hU : U j kept t = true := (h3 j kept hj hk ek t).mpr ⟨ht, k, hp, z⟩
    rw [hu t] at hf
    rcases (show j = 0 ∨ j = 1 ∨ j = 2 by omega) with rfl | rfl | rfl <;> simp [hU] at hf
  · intro t x ht hf hb hx e
    refine back x t hx ht e (fun z => ?_)
    have hM : M kept t = true := (h2 kept hk ek t).mpr ⟨ht, z⟩
    rw [hu t] at hf
    simp [hM, hb] at hf
/-- nothing is joined that must not be -/
theorem mx_join_in {T : mx_T} {nm nm' : Nat → Nat} {R : Nat → Nat → Prop} {kept gone a b : Nat} (hR : mx_cl T R) (hs : ∀ x y, mx_r (mx_n T) nm x y → R x y) (ha : a < mx_n T) (hb : b < mx_n T) (hab : R a b) (ea : nm a = kept) (eb : nm b = gone)
    (hn : ∀ t, t < mx_n T → nm' t = if nm t = gone then kept else nm t) : ∀ x y, mx_r (mx_n T) nm' x y → R x y := by
  rintro x y ⟨hx, hy, e⟩
  rw [hn x hx, hn y hy] at e
  have toB : ∀ z, z < mx_n T → nm z = gone → R z b := fun z hz q => hs z b ⟨hz, hb, q.trans eb.symm⟩
  have toA : ∀ z, z < mx_n T → nm z = kept → R z a := fun z hz q => hs z a ⟨hz, ha, q.trans ea.symm⟩
  by_cases q1 : nm x = gone <;> by_cases q2 : nm y = gone
  · exact hs x y ⟨hx, hy, q1.trans q2.symm⟩
  · rw [if_pos q1, if_neg q2] at e
    exact hR.2.2.1 _ _ _ (hR.2.2.1 _ _ _ (toB x hx q1) (hR.2.1 _ _ hab)) (hR.2.1 _ _ (toA y hy e.symm))
  · rw [if_neg q1, if_pos q2] at e
    exact hR.2.2.1 _ _ _ (hR.2.2.1 _ _ _ (toA x hx e) hab) (hR.2.1 _ _ (toB y hy q2))
  · rw [if_neg q1, if_neg q2] at e
    exact hs x y ⟨hx, hy, e⟩
/-- one row fewer -/
theorem mx_join_cnt {n : Nat} {nm nm' : Nat → Nat} {kept gone : Nat} (hk : kept < n) (hg : gone < n) (ek : nm kept = kept) (eg : nm gone = gone) (ne : kept ≠ gone)
    (hn : ∀ t, t < n → nm' t = if nm t = gone then kept else nm t) : mx_cnt (fun t => decide (nm' t = t)) n + 1 = mx_cnt (fun t => decide (nm t = t)) n := by
  refine mx_cnt_drop (g := gone) (fun i hi => ?_) hg (by simp [eg])
  show decide (nm' i = i) = (decide (nm i = i) && decide (i ≠ gone))
  rw [hn i hi]
  by_cases q : nm i = gone
  · rw [if_pos q]
    by_cases z : i = gone
    · subst z
      simp [ne]
    · have z1 : ¬ nm i = i := by rw [q]; exact fun e => z e.symm
      have z2 : ¬ kept = i := by
        rintro rfl
        exact ne (ek.symm.trans q)
      simp [z1, z2]
  · rw [if_neg q]
    by_cases z : i = gone
    · subst z
      exact absurd eg q
    · simp [z]
