/-! ROWS as arrays, and what one join does to them -/
def rk_U (fu su tu : Nat → Int64) (j r t : Nat) : Bool := match j with
  | 0 => jb (fu r) t
  | 1 => jb (su r) t
  | _ => jb (tu r) t
/-- the rows' arrays hold the rows by name nn -/
def rk_ok (T : mx_T) (nn : Nat → Nat) (nm : Nat → Int32) (me fu su tu be : Nat → Int64) (bd : Nat → Int32) (mi : Int32) : Prop :=
  (∀ t, t < mx_n T → nm t = nI (nn t)) ∧ ∃ (b : Nat → Option Nat) (mixed : Bool), mx_rows T nn (fun r t => jb (me r) t) (rk_U fu su tu) (fun r t => jb (be r) t) b mixed ∧ (∀ r, r < mx_n T → bd r = mx_enc (b r) ∧ ∀ s, b r = some s → s < 64) ∧ mi = (if mixed = true then 1 else 0)
def rk_un (T : mx_T) (un : Int64) : Prop := ∀ t, jb un t = true → t < mx_n T
def rk_bu (T : mx_T) (bu : Int64) : Prop := ∀ t, jb bu t = true ↔ t < mx_n T ∧ mx_bu T t = true
def mx_mu (T : mx_T) (nn : Nat → Nat) (un : Int64) : Nat := 61 * mx_cnt (fun t => decide (nn t = t)) (mx_n T) + jb_cnt un
def mx_step (T : mx_T) (E : Nat → Nat → Prop) (nn : Nat → Nat) (un : Int64) (nn' : Nat → Nat) (un' : Int64) : Prop :=
  mx_ext T nn (jb un) nn' (jb un') ∧ rk_un T un' ∧ mx_mu T nn' un' ≤ mx_mu T nn un ∧
  ∀ R : Nat → Nat → Prop, mx_cl T R → (∀ x y, mx_r (mx_n T) nn x y → R x y) → (∀ x y, E x y → R x y) → ∀ x y, mx_r (mx_n T) nn' x y → R x y
theorem mx_step.rf {T : mx_T} {E : Nat → Nat → Prop} {nn : Nat → Nat} {un : Int64} (h : rk_un T un) : mx_step T E nn un nn un :=
  ⟨mx_ext.rf, h, Nat.le_refl _, fun _ _ hs _ => hs⟩
theorem mx_step.tr {T : mx_T} {E E1 E2 : Nat → Nat → Prop} {nn nn1 nn2 : Nat → Nat} {un un1 un2 : Int64} (h1 : mx_step T E1 nn un nn1 un1) (h2 : mx_step T E2 nn1 un1 nn2 un2)
    (hE : ∀ R : Nat → Nat → Prop, mx_cl T R → (∀ x y, mx_r (mx_n T) nn x y → R x y) → (∀ x y, E x y → R x y) → (∀ x y, E1 x y → R x y) ∧ ((∀ x y, mx_r (mx_n T) nn1 x y → R x y) → ∀ x y, E2 x y → R x y)) : mx_step T E nn un nn2 un2 := by
  refine ⟨h1.1.tr h2.1, h2.2.1, Nat.le_trans h2.2.2.1 h1.2.2.1, fun R hR hs hE0 => ?_⟩
  obtain ⟨a, b⟩ := hE R hR hs hE0
  have h3 := h1.2.2.2 R hR hs a
  exact h2.2.2.2 R hR h3 (b h3)
theorem mx_step.of {T : mx_T} {E E1 : Nat → Nat → Prop} {nn nn1 : Nat → Nat} {un un1 : Int64} (h : mx_step T E1 nn un nn1 un1)
    (hE : ∀ R : Nat → Nat → Prop, mx_cl T R → (∀ x y, mx_r (mx_n T) nn x y → R x y) → (∀ x y, E x y → R x y) → (∀ x y, E1 x y → R x y)) : mx_step T E nn un nn1 un1 :=
  ⟨h.1, h.2.1, h.2.2.1, fun R hR hs hE0 => h.2.2.2 R hR hs (hE R hR hs hE0)⟩
theorem jb_cnt_n2 {x : Int64} {n : Nat} (hn : n ≤ 64) (h : ∀ t, jb x t = true → t < n) : jb_cnt x ≤ n := by
  unfold jb_cnt
  rw [mx_cnt_cut hn (fun i h1 _ => ts_nt (fun q => absurd (h i q) (by omega)))]
  exact mx_cnt_le _ _
theorem jb_updL (f : Nat → Int64) (k : Nat) (v : Int64) (r t : Nat) : jb (vp_updL f k v r) t = if r = k then jb v t else jb (f r) t := by
  unfold vp_updL
  split <;> rfl
theorem rk_enc_ne {b : Option Nat} (h : ∀ s, b = some s → s < 64) : (mx_enc b = -1) ↔ b = none := mx_enc_m1 h
/-- ONE JOIN: rows kept and gone put together, in the arrays' own words -/
theorem rk_join {T : mx_T} (hw : mx_wf T) (hn : mx_n T ≤ 60) {nn : Nat → Nat} {nm : Nat → Int32} {me fu su tu be : Nat → Int64} {bd : Nat → Int32} {mi : Int32} {bu un : Int64}
    (h : rk_ok T nn nm me fu su tu be bd mi) (hun : rk_un T un) (hbu : rk_bu T bu) {x y kept gone : Nat} (hx : x < mx_n T) (hy : y < mx_n T)
    (hkg : (kept = nn x ∧ gone = nn y) ∨ (kept = nn y ∧ gone = nn x)) (ne : kept ≠ gone) {un' : Int64}
    (hun' : un' = un ||| ((((vp_updL fu kept (fu kept ||| fu gone)) kept ||| (vp_updL su kept (su kept ||| su gone)) kept) ||| (vp_updL tu kept (tu kept ||| tu gone)) kept) ||| ((vp_updL me kept (me kept ||| me gone)) kept &&& bu))) :
    ∃ nn' : Nat → Nat, rk_ok T nn' (fun t => if jb (me gone) t = true then nI kept else nm t) (vp_updL me kept (me kept ||| me gone)) (vp_updL fu kept (fu kept ||| fu gone)) (vp_updL su kept (su kept ||| su gone)) (vp_updL tu kept (tu kept ||| tu gone)) (vp_updL be kept (be kept ||| be gone)) (jb_bd bd kept gone) (jb_mi bd mi kept gone) ∧
      mx_step T (fun a b => a = x ∧ b = y) nn un nn' un' ∧ nn' x = nn' y := by
  obtain ⟨hnm, b, mixed, hr, hbd, hmi⟩ := h
  have hkx := hr.1 x hx
  have hky := hr.1 y hy
  obtain ⟨hk, ek, hg, eg⟩ : kept < mx_n T ∧ nn kept = kept ∧ gone < mx_n T ∧ nn gone = gone := by
    rcases hkg with ⟨rfl, rfl⟩ | ⟨rfl, rfl⟩
    · exact ⟨hkx.1, hkx.2, hky.1, hky.2⟩
    · exact ⟨hky.1, hky.2, hkx.1, hkx.2⟩
  have hN : ∀ t, t < mx_n T → (fun t => if nn t = gone then kept else nn t) t = if nn t = gone then kept else nn t := fun _ _ => rfl
  have hR' : mx_rows T (fun t => if nn t = gone then kept else nn t) (fun r t => jb (vp_updL me kept (me kept ||| me gone) r) t) (rk_U (vp_updL fu kept (fu kept ||| fu gone)) (vp_updL su kept (su kept ||| su gone)) (vp_updL tu kept (tu kept ||| tu gone))) (fun r t => jb (vp_updL be kept (be kept ||| be gone) r) t) (fun r => if r = kept then (match b kept with | none => b gone | some s => some s) else b r) (mixed || mx_mix (b kept) (b gone)) := by
    refine mx_join hw hr hk hg ek eg ne hN ?_ ?_ ?_ (fun _ _ => rfl) rfl
    · intro r t _
      show jb (vp_updL me kept _ r) t = _
      rw [jb_updL, jb_or]
    · intro j r t hj _
      rcases (show j = 0 ∨ j = 1 ∨ j = 2 by omega) with rfl | rfl | rfl
      · show jb (vp_updL fu kept _ r) t = if r = kept then (jb (fu kept) t || jb (fu gone) t) else jb (fu r) t
        rw [jb_updL, jb_or]
      · show jb (vp_updL su kept _ r) t = if r = kept then (jb (su kept) t || jb (su gone) t) else jb (su r) t
        rw [jb_updL, jb_or]
      · show jb (vp_updL tu kept _ r) t = if r = kept then (jb (tu kept) t || jb (tu gone) t) else jb (tu r) t
        rw [jb_updL, jb_or]
    · intro r t _
      show jb (vp_updL be kept _ r) t = _
      rw [jb_updL, jb_or]
  have hunb : ∀ t, jb un' t = (jb un t || (rk_U (vp_updL fu kept (fu kept ||| fu gone)) (vp_updL su kept (su kept ||| su gone)) (vp_updL tu kept (tu kept ||| tu gone)) 0 kept t || rk_U (vp_updL fu kept (fu kept ||| fu gone)) (vp_updL su kept (su kept ||| su gone)) (vp_updL tu kept (tu kept ||| tu gone)) 1 kept t || rk_U (vp_updL fu kept (fu kept ||| fu gone)) (vp_updL su kept (su kept ||| su gone)) (vp_updL tu kept (tu kept ||| tu gone)) 2 kept t) || (jb (vp_updL me kept (me kept ||| me gone) kept) t && mx_bu T t)) := by
    intro t
    rw [hun', jb_or, jb_or, jb_or, jb_or, jb_and]
    have e1 : (jb (vp_updL me kept (me kept ||| me gone) kept) t && jb bu t) = (jb (vp_updL me kept (me kept ||| me gone) kept) t && mx_bu T t) := by
      cases hm : jb (vp_updL me kept (me kept ||| me gone) kept) t with
      | false => rfl
      | true =>
        have ek2 : (fun t => if nn t = gone then kept else nn t) kept = kept := by show (if nn kept = gone then kept else nn kept) = kept; rw [ek, if_neg ne]
        have ht := ((hR'.2.1 kept hk ek2 t).mp hm).1
        rw [Bool.true_and, Bool.true_and]
        cases hq : mx_bu T t with
        | true => exact (hbu t).mpr ⟨ht, hq⟩
        | false =>
          cases hz : jb bu t with
          | false => rfl
          | true => rw [((hbu t).mp hz).2] at hq; cases hq
    rw [e1, ← Bool.or_assoc]
    rfl
  have ek2 : (fun t => if nn t = gone then kept else nn t) kept = kept := by show (if nn kept = gone then kept else nn kept) = kept; rw [ek, if_neg ne]
  refine ⟨fun t => if nn t = gone then kept else nn t, ⟨?_, _, _, hR', ?_, ?_⟩, ⟨?_, ?_, ?_, ?_⟩, ?_⟩
  · intro t ht
    show (if jb (me gone) t = true then nI kept else nm t) = nI (if nn t = gone then kept else nn t)
    by_cases q : nn t = gone
    · rw [if_pos q, if_pos ((hr.2.1 gone hg eg t).mpr ⟨ht, q⟩)]
    · rw [if_neg q, if_neg (fun z => q ((hr.2.1 gone hg eg t).mp z).2)]
      exact hnm t ht
  · intro r hr0
    obtain ⟨k1, k2⟩ := hbd kept hk
    obtain ⟨g1, g2⟩ := hbd gone hg
    obtain ⟨r1, r2⟩ := hbd r hr0
    show jb_bd bd kept gone r = mx_enc (if r = kept then (match b kept with | none => b gone | some s => some s) else b r) ∧ _
    unfold jb_bd
    by_cases q : r = kept
    · subst q
      rw [if_pos rfl]
      cases hb : b r with
      | none =>
        rw [hb] at k1
        rw [if_pos (show bd r = -1 from k1)]
        refine ⟨?_, fun s hs => g2 s (by simpa using hs)⟩
        show upd bd r (bd gone) r = mx_enc (b gone)
        rw [pk_us, g1]
      | some s0 =>
        have : ¬ bd r = -1 := by rw [k1, mx_enc_m1 k2, hb]; exact fun z => by cases z
        rw [if_neg this]
        refine ⟨?_, fun s hs => k2 s (by rw [hb]; simpa using hs)⟩
        show bd r = mx_enc (some s0)
        rw [k1, hb]
    · rw [if_neg q]
      refine ⟨?_, fun s hs => r2 s (by simpa [q] using hs)⟩
      split
      · rw [pk_un q, r1]
      · exact r1
  · obtain ⟨k1, k2⟩ := hbd kept hk
    obtain ⟨g1, g2⟩ := hbd gone hg
    unfold jb_mi
    rw [k1, g1, hmi]
    cases hb : b kept with
    | none => simp [mx_mix, mx_enc]
    | some s1 =>
      have n1 : ¬ mx_enc (some s1) = -1 := by rw [mx_enc_m1 (fun k hk => k2 k (by rw [hb]; exact hk))]; exact fun z => by cases z
      rw [if_neg n1]
      cases hb2 : b gone with
      | none => simp [mx_mix, mx_enc]
      | some s2 =>
        have n2 : ¬ mx_enc (some s2) = -1 := by rw [mx_enc_m1 (fun k hk => g2 k (by rw [hb2]; exact hk))]; exact fun z => by cases z
        rw [if_neg n2]
        by_cases q : s1 = s2
        · subst q
          simp [mx_mix]
        · have n3 : ¬ mx_enc (some s2) = mx_enc (some s1) := fun z => q (Option.some.inj (mx_enc_inj (fun k hk => g2 k (by rw [hb2]; exact hk)) (fun k hk => k2 k (by rw [hb]; exact hk)) z)).symm
          rw [if_neg n3]
          simp [mx_mix, q]
  · exact mx_join_ext hw hR' hk ek2 hN hunb
  · intro t ht
    rw [hunb t] at ht
    simp only [Bool.or_eq_true, Bool.and_eq_true] at ht
    rcases ht with (q | (q | q) | q) | q
    · exact hun t q
    · exact ((hR'.2.2.1 0 kept (by omega) hk ek2 t).mp q).1
    · exact ((hR'.2.2.1 1 kept (by omega) hk ek2 t).mp q).1
    · exact ((hR'.2.2.1 2 kept (by omega) hk ek2 t).mp q).1
    · exact ((hR'.2.1 kept hk ek2 t).mp q.1).1
  · have hc : mx_cnt (fun t => decide ((if nn t = gone then kept else nn t) = t)) (mx_n T) + 1 = mx_cnt (fun t => decide (nn t = t)) (mx_n T) := mx_join_cnt (n := mx_n T) hk hg ek eg ne hN
    have hc2 : jb_cnt un' ≤ 60 := by
      refine Nat.le_trans (jb_cnt_n2 (n := mx_n T) (by omega) (fun t ht => ?_)) hn
      rw [hunb t] at ht
      simp only [Bool.or_eq_true, Bool.and_eq_true] at ht
      rcases ht with (q | (q | q) | q) | q
      · exact hun t q
      · exact ((hR'.2.2.1 0 kept (by omega) hk ek2 t).mp q).1
      · exact ((hR'.2.2.1 1 kept (by omega) hk ek2 t).mp q).1
      · exact ((hR'.2.2.1 2 kept (by omega) hk ek2 t).mp q).1
      · exact ((hR'.2.1 kept hk ek2 t).mp q.1).1
    show 61 * mx_cnt (fun t => decide ((if nn t = gone then kept else nn t) = t)) (mx_n T) + jb_cnt un' ≤ 61 * mx_cnt (fun t => decide (nn t = t)) (mx_n T) + jb_cnt un
    omega
  · intro R hR hs hE
    rcases hkg with ⟨h1, h2⟩ | ⟨h1, h2⟩
    · exact mx_join_in (a := x) (b := y) hR hs hx hy (hE x y ⟨rfl, rfl⟩) h1.symm h2.symm hN
    · exact mx_join_in (a := y) (b := x) hR hs hy hx (hR.2.1 _ _ (hE x y ⟨rfl, rfl⟩)) h1.symm h2.symm hN
  · show (if nn x = gone then kept else nn x) = (if nn y = gone then kept else nn y)
    rcases hkg with ⟨h1, h2⟩ | ⟨h1, h2⟩
    · rw [← h1, ← h2, if_neg ne, if_pos rfl]
    · rw [← h1, ← h2, if_neg ne, if_pos rfl]
