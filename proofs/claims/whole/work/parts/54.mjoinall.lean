/-! THE REFERENCE joins all -/
def ja_E (T : mx_T) (F : mx_F) (S : Nat → Bool) (a b f x y : Nat) : Prop := mx_E F S f x y ∨ (0 < mx_n T ∧ x = a ∧ y = b)
def ja_I (T : mx_T) (E : Nat → Nat → Prop) (nn : Nat → Nat) (le : Nat → Int32) : Prop :=
  md_L T nn le ∧ (∀ x y, E x y → mx_r (mx_n T) nn x y) ∧ (∀ R : Nat → Nat → Prop, mx_cl T R → (∀ x y, E x y → R x y) → ∀ x y, mx_r (mx_n T) nn x y → R x y)
theorem ja_to {T : mx_T} {E E' : Nat → Nat → Prop} {nn : Nat → Nat} {le : Nat → Int32} (h : ja_I T E nn le) (e : ∀ x y, E x y ↔ E' x y) : ja_I T E' nn le :=
  ⟨h.1, fun x y q => h.2.1 x y ((e x y).mpr q), fun R hR hE => h.2.2 R hR (fun x y q => hE x y ((e x y).mp q))⟩
theorem ja_join {T : mx_T} {E : Nat → Nat → Prop} {nn : Nat → Nat} {le le2 : Nat → Int32} {jo jo2 : Int32} (h : ja_I T E nn le) {a b : Nat} (ha : a < mx_n T) (hb : b < mx_n T) (hj : mj_Q T nn a b jo (le2, jo2)) : ∃ nn2, ja_I T (fun x y => E x y ∨ (x = a ∧ y = b)) nn2 le2 := by
  obtain ⟨nn2, k1, k2, k3, k4, -⟩ := hj
  refine ⟨nn2, k1, fun x y q => ?_, fun R hR hE => k4 R hR (h.2.2 R hR (fun x y q => hE x y (Or.inl q))) (hE a b (Or.inr ⟨rfl, rfl⟩))⟩
  rcases q with q | ⟨rfl, rfl⟩
  · have := h.2.1 x y q
    exact ⟨this.1, this.2.1, k3 x y this.1 this.2.1 this.2.2⟩
  · exact ⟨ha, hb, k2⟩
theorem ja_0 {T : mx_T} {le : Nat → Int32} (h : ∀ t, t < mx_n T → le t = nI t) : ja_I T (fun _ _ => False) (fun t => t) le :=
  ⟨md_id h, fun _ _ q => q.elim, fun R hR _ x y q => by obtain ⟨h1, -, e⟩ := q; have e : x = y := e; subst e; exact hR.1 x h1⟩
def ja_Q (T : mx_T) (F : mx_F) (S : Nat → Bool) (a b : Nat) (u : (Nat → Int32) × Int32) : Prop := ∃ nn, md_L T nn u.1 ∧ mx_lst T (ja_E T F S a b (mx_m F)) nn
theorem ja_rt {T : mx_T} (nn : Nat → Nat) : mx_rt0 T nn ≤ mx_n T := mx_cnt_le _ _

set_option maxHeartbeats 4000000 in
set_option maxRecDepth 100000 in
theorem ja_6 {p : Program} {l : Launch} {e : Env} {s : State} {m : MethodId} {args : Array Value} {below : List Frame} {meth : Method} {c : Code} {Q : State → Prop} (hx : p.tables.exec = Jvm.exec) (hb : c.code = cX4_joinAll) (hown : s.vm.findClass RX4 = some m.cls) (hts : ∀ w ∈ wsX4_joinAll, w.before args s = true) {dC : Nat → ClassId} {dI : Nat → Nat → Nat} {cI cJ cZ : ClassId} (hK : va_K (dC, dI) vwCl [(cI, .int), (cJ, .long), (cZ, .boolean)] s) {T : mx_T} {F : mx_F} {mA : Nat → Nat} {th : Int32} {isb : Nat → Int32} {pls : Nat → Int32} {msg : Nat → Int32} {at_ : Nat → Int32} {on : Nat → Int32} {tw : Nat → Int32} {sa : Nat → Int32} {E : Nat → Nat → Prop} {r0 : Nat} {x : Nat} {y : Nat} {PP : Nat → Nat → Prop} (hw : mx_wf T) (hpf : mx_pf T) (hn : mx_n T ≤ 60) (hmt : md_T T isb pls msg at_) (hmf : mx_m F ≤ 40 ∧ ∀ f, f < mx_m F → on f = nI (mx_lf F f) ∧ tw f = nI (mx_rt F f) ∧ mx_lf F f < mx_n T ∧ mx_rt F f < mx_n T ∧ sa f = (if mx_sm F f = true then 1 else 0)) (hx0 : x < mx_n T) (hy0 : y < mx_n T) (hs : mx_sg T x = mx_sg T y) {A : Nat → Prop} {H0 : Heap} (hA : ∀ q : Nat, H0.size ≤ q → A q) (hml : c.maxLocals = 8) (kk : ∀ (nn : Nat → Nat) (le : Nat → Int32) (jo : Int32) (H : Heap) (locs : List Loc) (ls : Array Slot), (pa_I T E r0 (fun u v => PP u v ∨ (u = x ∧ v = y)) nn le jo) → va_P (dC, dI) vwCl [(mA 0, .inr (4, [.int th, .ref (mA 1), .ref (mA 2), .ref (mA 3), .int (nI (mx_n T)), .int (nI (mx_m F)), .ref (mA 4), .ref (mA 5), .ref (mA 6), .ref (mA 7), .ref (mA 8), .ref (mA 9), .int jo, .ref (mA 10), .ref (mA 11)])), (mA 1, .inl (cZ, 16, .inl isb)), (mA 3, .inl (cI, 16, .inl pls)), (mA 4, .inl (cI, 60, .inl msg)), (mA 5, .inl (cI, 180, .inl at_)), (mA 6, .inl (cI, 40, .inl on)), (mA 7, .inl (cI, 40, .inl tw)), (mA 8, .inl (cZ, 40, .inl sa)), (mA 9, .inl (cI, 60, .inl le))] H → va_D A [(mA 0, .inr (4, [.int th, .ref (mA 1), .ref (mA 2), .ref (mA 3), .int (nI (mx_n T)), .int (nI (mx_m F)), .ref (mA 4), .ref (mA 5), .ref (mA 6), .ref (mA 7), .ref (mA 8), .ref (mA 9), .int jo, .ref (mA 10), .ref (mA 11)])), (mA 1, .inl (cZ, 16, .inl isb)), (mA 3, .inl (cI, 16, .inl pls)), (mA 4, .inl (cI, 60, .inl msg)), (mA 5, .inl (cI, 180, .inl at_)), (mA 6, .inl (cI, 40, .inl on)), (mA 7, .inl (cI, 40, .inl tw)), (mA 8, .inl (cZ, 40, .inl sa)), (mA 9, .inl (cI, 60, .inl le))] → va_S A H0 H locs → lv_has ls 8 [(0, .ref (mA 0)), (5, .int (nI x)), (6, .int (nI y))] → W p l e ({ frames := 1, cells := 0, slots := 0, locals := 26 }) s m args below meth c H locs 0 0 Q (F0 m 262 ls [])) : ∀ (d : Nat) (k : Nat) (nn : Nat → Nat) (le : Nat → Int32) (jo : Int32) (H : Heap) (locs : List Loc) (ls : Array Slot), (k + d = mx_ar (mx_pl T) x) → (pa_I T E r0 PP nn le jo) → (jo = 0 → (∀ j, j < 3 → mx_pr (mx_r (mx_n T) nn) (mx_pl T j x) (mx_pl T j y)) → nn x = nn y) → (∀ j p q, j < k → mx_pl T j x = some p → mx_pl T j y = some q → nn p = nn q) → va_P (dC, dI) vwCl [(mA 0, .inr (4, [.int th, .ref (mA 1), .ref (mA 2), .ref (mA 3), .int (nI (mx_n T)), .int (nI (mx_m F)), .ref (mA 4), .ref (mA 5), .ref (mA 6), .ref (mA 7), .ref (mA 8), .ref (mA 9), .int jo, .ref (mA 10), .ref (mA 11)])), (mA 1, .inl (cZ, 16, .inl isb)), (mA 3, .inl (cI, 16, .inl pls)), (mA 4, .inl (cI, 60, .inl msg)), (mA 5, .inl (cI, 180, .inl at_)), (mA 6, .inl (cI, 40, .inl on)), (mA 7, .inl (cI, 40, .inl tw)), (mA 8, .inl (cZ, 40, .inl sa)), (mA 9, .inl (cI, 60, .inl le))] H → va_D A [(mA 0, .inr (4, [.int th, .ref (mA 1), .ref (mA 2), .ref (mA 3), .int (nI (mx_n T)), .int (nI (mx_m F)), .ref (mA 4), .ref (mA 5), .ref (mA 6), .ref (mA 7), .ref (mA 8), .ref (mA 9), .int jo, .ref (mA 10), .ref (mA 11)])), (mA 1, .inl (cZ, 16, .inl isb)), (mA 3, .inl (cI, 16, .inl pls)), (mA 4, .inl (cI, 60, .inl msg)), (mA 5, .inl (cI, 180, .inl at_)), (mA 6, .inl (cI, 40, .inl on)), (mA 7, .inl (cI, 40, .inl tw)), (mA 8, .inl (cZ, 40, .inl sa)), (mA 9, .inl (cI, 60, .inl le))] → va_S A H0 H locs → lv_has ls 8 [(0, .ref (mA 0)), (5, .int (nI x)), (6, .int (nI y)), (7, .int (nI k))] → W p l e ({ frames := 1, cells := 0, slots := 0, locals := 26 }) s m args below meth c H locs 0 0 Q (F0 m 179 ls []) := by
  intro d
  induction d with
  | zero =>
    intro k nn le jo H locs ls hd hI h1 h2 hP hD hS hl
    have h3 := mx_ar_le (mx_pl T) x
    obtain ⟨e1, e2, e3, e4⟩ := hmt.1 x hx0
    have nx := hI.1.2 x hx0
    have ny := hI.1.2 y hy0
    refine lv_aload_n hx hb dX4_joinAll_179 rfl (lv_at hl 0 rfl) ?_
    refine va_get (D := (dC, dI)) (ci := 4) (v := .ref (mA 9)) (C := RX4) (T := TX4) (N := 15) hx hb hts (fun w h => woX4_joinAll w (inX4 w h)) hown hK hP 0 rfl rfl 11 (by decide) (hts _ (woX4_joinAll _ wd_504)) (fun _ h9 => h9) rfl dX4_joinAll_180 ?_
    refine lv_iload hx hb dX4_joinAll_183 (lv_at hl 1 rfl) ?_
    refine va_iald hx hb hK hP 8 0 rfl rfl (vp_in_nI (by omega) (by omega)) dX4_joinAll_185 ?_
    rw [show (nI x).toNatClampNeg = x from nI_clamp (by omega)]
    rw [hI.1.1 x hx0]
    refine lv_aload_n hx hb dX4_joinAll_186 rfl (lv_at hl 0 rfl) ?_
    refine va_get (D := (dC, dI)) (ci := 4) (v := .ref (mA 9)) (C := RX4) (T := TX4) (N := 15) hx hb hts (fun w h => woX4_joinAll w (inX4 w h)) hown hK hP 0 rfl rfl 11 (by decide) (hts _ (woX4_joinAll _ wd_504)) (fun _ h9 => h9) rfl dX4_joinAll_187 ?_
    refine lv_iload hx hb dX4_joinAll_190 (lv_at hl 2 rfl) ?_
    refine va_iald hx hb hK hP 8 0 rfl rfl (vp_in_nI (by omega) (by omega)) dX4_joinAll_192 ?_
    rw [show (nI y).toNatClampNeg = y from nI_clamp (by omega)]
    rw [hI.1.1 y hy0]
    refine lv_icmp_ne (tgt := 262) hx hb dX4_joinAll_193 (by decide) (fun c1 => ?_) (fun c1 => ?_)
    · refine kk nn le jo _ _ _ (hI.to (fun hj u v q => q.elim Or.inl (fun z => Or.inr (by obtain ⟨rfl, rfl⟩ := z; exact fun _ => ⟨h1 hj, fun z => absurd (by rw [z]) c1⟩)))) hP hD hS (lv_sub hl [0, 1, 2] rfl)
    · have exy : nn x = nn y := (nI_eq (by omega) (by omega)).mp c1
      refine lv_aload_n hx hb dX4_joinAll_196 rfl (lv_at hl 0 rfl) ?_
      refine va_get (D := (dC, dI)) (ci := 4) (v := .ref (mA 1)) (C := RX4) (T := TX4) (N := 15) hx hb hts (fun w h => woX4_joinAll w (inX4 w h)) hown hK hP 0 rfl rfl 1 (by decide) (hts _ (woX4_joinAll _ wd_494)) (fun _ h9 => h9) rfl dX4_joinAll_197 ?_
      refine lv_aload_n hx hb dX4_joinAll_200 rfl (lv_at hl 0 rfl) ?_
      refine va_get (D := (dC, dI)) (ci := 4) (v := .ref (mA 4)) (C := RX4) (T := TX4) (N := 15) hx hb hts (fun w h => woX4_joinAll w (inX4 w h)) hown hK hP 0 rfl rfl 6 (by decide) (hts _ (woX4_joinAll _ wd_499)) (fun _ h9 => h9) rfl dX4_joinAll_201 ?_
      refine lv_iload hx hb dX4_joinAll_204 (lv_at hl 1 rfl) ?_
      refine va_iald hx hb hK hP 3 0 rfl rfl (vp_in_nI (by omega) (by omega)) dX4_joinAll_206 ?_
      rw [show (nI x).toNatClampNeg = x from nI_clamp (by omega)]
      rw [e1]
      refine va_zald hx hb hK hP 1 2 rfl rfl (vp_in_nI (by omega) (by omega)) dX4_joinAll_207 ?_
      rw [show (nI (mx_sg T x)).toNatClampNeg = (mx_sg T x) from nI_clamp (by omega)]
      rw [e4]
      refine lv_if_eq (tgt := 262) hx hb dX4_joinAll_208 (by decide) (fun c2 => ?_) (fun c2 => ?_)
      · have hbf : ¬ mx_bu T x = true := fun z => by rw [if_pos z] at c2; exact absurd c2 (by decide)
        refine kk nn le jo _ _ _ (hI.to (fun hj u v q => q.elim Or.inl (fun z => Or.inr (by obtain ⟨rfl, rfl⟩ := z; exact fun _ => ⟨h1 hj, fun _ z => absurd z hbf⟩)))) hP hD hS (lv_sub hl [0, 1, 2] rfl)
      · have hbt : mx_bu T x = true := Classical.byContradiction fun z => c2 (if_neg z)
        refine lv_iload hx hb dX4_joinAll_211 (lv_at hl 3 rfl) ?_
        refine lv_aload_n hx hb dX4_joinAll_213 rfl (lv_at hl 0 rfl) ?_
        refine va_get (D := (dC, dI)) (ci := 4) (v := .ref (mA 3)) (C := RX4) (T := TX4) (N := 15) hx hb hts (fun w h => woX4_joinAll w (inX4 w h)) hown hK hP 0 rfl rfl 3 (by decide) (hts _ (woX4_joinAll _ wd_496)) (fun _ h9 => h9) rfl dX4_joinAll_214 ?_
        refine lv_aload_n hx hb dX4_joinAll_217 rfl (lv_at hl 0 rfl) ?_
        refine va_get (D := (dC, dI)) (ci := 4) (v := .ref (mA 4)) (C := RX4) (T := TX4) (N := 15) hx hb hts (fun w h => woX4_joinAll w (inX4 w h)) hown hK hP 0 rfl rfl 6 (by decide) (hts _ (woX4_joinAll _ wd_499)) (fun _ h9 => h9) rfl dX4_joinAll_218 ?_
        refine lv_iload hx hb dX4_joinAll_221 (lv_at hl 1 rfl) ?_
        refine va_iald hx hb hK hP 3 0 rfl rfl (vp_in_nI (by omega) (by omega)) dX4_joinAll_223 ?_
        rw [show (nI x).toNatClampNeg = x from nI_clamp (by omega)]
        rw [e1]
        refine va_iald hx hb hK hP 2 0 rfl rfl (vp_in_nI (by omega) (by omega)) dX4_joinAll_224 ?_
        rw [show (nI (mx_sg T x)).toNatClampNeg = (mx_sg T x) from nI_clamp (by omega)]
        rw [e3]
        refine lv_icmp_ge (tgt := 262) hx hb dX4_joinAll_225 (by decide) (fun c3 => ?_) (fun c3 => ?_)
        · have ek : k = mx_ar (mx_pl T) x := by omega
          refine kk nn le jo _ _ _ (hI.to (fun hj u v q => q.elim Or.inl (fun z => Or.inr (by obtain ⟨rfl, rfl⟩ := z; exact fun _ => ⟨h1 hj, fun _ _ => pr_all hw hpf hx0 hy0 hs (fun j p q hj => h2 j p q (by omega))⟩)))) hP hD hS (lv_sub hl [0, 1, 2] rfl)
        · exact absurd (nI_le (a := mx_ar (mx_pl T) x) (b := k) (by omega) (by omega)) c3
  | succ d ih =>
    intro k nn le jo H locs ls hd hI h1 h2 hP hD hS hl
    have h3 := mx_ar_le (mx_pl T) x
    obtain ⟨e1, e2, e3, e4⟩ := hmt.1 x hx0
    have nx := hI.1.2 x hx0
    have ny := hI.1.2 y hy0
    refine lv_aload_n hx hb dX4_joinAll_179 rfl (lv_at hl 0 rfl) ?_
    refine va_get (D := (dC, dI)) (ci := 4) (v := .ref (mA 9)) (C := RX4) (T := TX4) (N := 15) hx hb hts (fun w h => woX4_joinAll w (inX4 w h)) hown hK hP 0 rfl rfl 11 (by decide) (hts _ (woX4_joinAll _ wd_504)) (fun _ h9 => h9) rfl dX4_joinAll_180 ?_
    refine lv_iload hx hb dX4_joinAll_183 (lv_at hl 1 rfl) ?_
    refine va_iald hx hb hK hP 8 0 rfl rfl (vp_in_nI (by omega) (by omega)) dX4_joinAll_185 ?_
    rw [show (nI x).toNatClampNeg = x from nI_clamp (by omega)]
    rw [hI.1.1 x hx0]
    refine lv_aload_n hx hb dX4_joinAll_186 rfl (lv_at hl 0 rfl) ?_
    refine va_get (D := (dC, dI)) (ci := 4) (v := .ref (mA 9)) (C := RX4) (T := TX4) (N := 15) hx hb hts (fun w h => woX4_joinAll w (inX4 w h)) hown hK hP 0 rfl rfl 11 (by decide) (hts _ (woX4_joinAll _ wd_504)) (fun _ h9 => h9) rfl dX4_joinAll_187 ?_
    refine lv_iload hx hb dX4_joinAll_190 (lv_at hl 2 rfl) ?_
    refine va_iald hx hb hK hP 8 0 rfl rfl (vp_in_nI (by omega) (by omega)) dX4_joinAll_192 ?_
    rw [show (nI y).toNatClampNeg = y from nI_clamp (by omega)]
    rw [hI.1.1 y hy0]
    refine lv_icmp_ne (tgt := 262) hx hb dX4_joinAll_193 (by decide) (fun c1 => ?_) (fun c1 => ?_)
    · refine kk nn le jo _ _ _ (hI.to (fun hj u v q => q.elim Or.inl (fun z => Or.inr (by obtain ⟨rfl, rfl⟩ := z; exact fun _ => ⟨h1 hj, fun z => absurd (by rw [z]) c1⟩)))) hP hD hS (lv_sub hl [0, 1, 2] rfl)
    · have exy : nn x = nn y := (nI_eq (by omega) (by omega)).mp c1
      refine lv_aload_n hx hb dX4_joinAll_196 rfl (lv_at hl 0 rfl) ?_
      refine va_get (D := (dC, dI)) (ci := 4) (v := .ref (mA 1)) (C := RX4) (T := TX4) (N := 15) hx hb hts (fun w h => woX4_joinAll w (inX4 w h)) hown hK hP 0 rfl rfl 1 (by decide) (hts _ (woX4_joinAll _ wd_494)) (fun _ h9 => h9) rfl dX4_joinAll_197 ?_
      refine lv_aload_n hx hb dX4_joinAll_200 rfl (lv_at hl 0 rfl) ?_
      refine va_get (D := (dC, dI)) (ci := 4) (v := .ref (mA 4)) (C := RX4) (T := TX4) (N := 15) hx hb hts (fun w h => woX4_joinAll w (inX4 w h)) hown hK hP 0 rfl rfl 6 (by decide) (hts _ (woX4_joinAll _ wd_499)) (fun _ h9 => h9) rfl dX4_joinAll_201 ?_
      refine lv_iload hx hb dX4_joinAll_204 (lv_at hl 1 rfl) ?_
      refine va_iald hx hb hK hP 3 0 rfl rfl (vp_in_nI (by omega) (by omega)) dX4_joinAll_206 ?_
      rw [show (nI x).toNatClampNeg = x from nI_clamp (by omega)]
      rw [e1]
      refine va_zald hx hb hK hP 1 2 rfl rfl (vp_in_nI (by omega) (by omega)) dX4_joinAll_207 ?_
      rw [show (nI (mx_sg T x)).toNatClampNeg = (mx_sg T x) from nI_clamp (by omega)]
      rw [e4]
      refine lv_if_eq (tgt := 262) hx hb dX4_joinAll_208 (by decide) (fun c2 => ?_) (fun c2 => ?_)
      · have hbf : ¬ mx_bu T x = true := fun z => by rw [if_pos z] at c2; exact absurd c2 (by decide)
        refine kk nn le jo _ _ _ (hI.to (fun hj u v q => q.elim Or.inl (fun z => Or.inr (by obtain ⟨rfl, rfl⟩ := z; exact fun _ => ⟨h1 hj, fun _ z => absurd z hbf⟩)))) hP hD hS (lv_sub hl [0, 1, 2] rfl)
      · have hbt : mx_bu T x = true := Classical.byContradiction fun z => c2 (if_neg z)
        refine lv_iload hx hb dX4_joinAll_211 (lv_at hl 3 rfl) ?_
        refine lv_aload_n hx hb dX4_joinAll_213 rfl (lv_at hl 0 rfl) ?_
        refine va_get (D := (dC, dI)) (ci := 4) (v := .ref (mA 3)) (C := RX4) (T := TX4) (N := 15) hx hb hts (fun w h => woX4_joinAll w (inX4 w h)) hown hK hP 0 rfl rfl 3 (by decide) (hts _ (woX4_joinAll _ wd_496)) (fun _ h9 => h9) rfl dX4_joinAll_214 ?_
        refine lv_aload_n hx hb dX4_joinAll_217 rfl (lv_at hl 0 rfl) ?_
        refine va_get (D := (dC, dI)) (ci := 4) (v := .ref (mA 4)) (C := RX4) (T := TX4) (N := 15) hx hb hts (fun w h => woX4_joinAll w (inX4 w h)) hown hK hP 0 rfl rfl 6 (by decide) (hts _ (woX4_joinAll _ wd_499)) (fun _ h9 => h9) rfl dX4_joinAll_218 ?_
        refine lv_iload hx hb dX4_joinAll_221 (lv_at hl 1 rfl) ?_
        refine va_iald hx hb hK hP 3 0 rfl rfl (vp_in_nI (by omega) (by omega)) dX4_joinAll_223 ?_
        rw [show (nI x).toNatClampNeg = x from nI_clamp (by omega)]
        rw [e1]
        refine va_iald hx hb hK hP 2 0 rfl rfl (vp_in_nI (by omega) (by omega)) dX4_joinAll_224 ?_
        rw [show (nI (mx_sg T x)).toNatClampNeg = (mx_sg T x) from nI_clamp (by omega)]
        rw [e3]
        refine lv_icmp_ge (tgt := 262) hx hb dX4_joinAll_225 (by decide) (fun c3 => ?_) (fun c3 => ?_)
        · exact absurd c3 (nI_ge (show k < mx_ar (mx_pl T) x by omega) (by omega))
        · have hka : k < mx_ar (mx_pl T) x := by omega
          obtain ⟨p0, hp0⟩ := mx_ar_some hpf hx0 hka
          obtain ⟨q0, hq0⟩ := mx_ar_some hpf hy0 (by rw [← mx_ar_eq hw hx0 hy0 hs]; exact hka)
          have lp : p0 < mx_n T := Nat.lt_trans (hw.1 x k p0 hx0 hp0) hx0
          have lq : q0 < mx_n T := Nat.lt_trans (hw.1 y k q0 hy0 hq0) hy0
          have ax : at_ (3 * x + k) = nI p0 := by rw [hmt.2 x k hx0 (by omega), hp0]; rfl
          have ay : at_ (3 * y + k) = nI q0 := by rw [hmt.2 y k hy0 (by omega), hq0]; rfl
          refine lv_aload_n hx hb dX4_joinAll_228 rfl (lv_at hl 0 rfl) ?_
          refine lv_aload_n hx hb dX4_joinAll_229 rfl (lv_at hl 0 rfl) ?_
          refine va_get (D := (dC, dI)) (ci := 4) (v := .ref (mA 5)) (C := RX4) (T := TX4) (N := 15) hx hb hts (fun w h => woX4_joinAll w (inX4 w h)) hown hK hP 0 rfl rfl 7 (by decide) (hts _ (woX4_joinAll _ wd_500)) (fun _ h9 => h9) rfl dX4_joinAll_230 ?_
          refine lv_iconst (v := 3) hx hb dX4_joinAll_233 (by decide) ?_
          refine lv_iload hx hb dX4_joinAll_234 (lv_at hl 1 rfl) ?_
          refine lv_imul hx hb dX4_joinAll_236 ?_
          refine lv_iload hx hb dX4_joinAll_237 (lv_at hl 3 rfl) ?_
          refine lv_iadd hx hb dX4_joinAll_239 ?_
          rw [ix3]
          refine va_iald hx hb hK hP 4 0 rfl rfl (vp_in_nI (by omega) (by omega)) dX4_joinAll_240 ?_
          rw [show (nI (3 * x + k)).toNatClampNeg = (3 * x + k) from nI_clamp (by omega)]
          rw [ax]
          refine lv_aload_n hx hb dX4_joinAll_241 rfl (lv_at hl 0 rfl) ?_
          refine va_get (D := (dC, dI)) (ci := 4) (v := .ref (mA 5)) (C := RX4) (T := TX4) (N := 15) hx hb hts (fun w h => woX4_joinAll w (inX4 w h)) hown hK hP 0 rfl rfl 7 (by decide) (hts _ (woX4_joinAll _ wd_500)) (fun _ h9 => h9) rfl dX4_joinAll_242 ?_
          refine lv_iconst (v := 3) hx hb dX4_joinAll_245 (by decide) ?_
          refine lv_iload hx hb dX4_joinAll_246 (lv_at hl 2 rfl) ?_
          refine lv_imul hx hb dX4_joinAll_248 ?_
          refine lv_iload hx hb dX4_joinAll_249 (lv_at hl 3 rfl) ?_
          refine lv_iadd hx hb dX4_joinAll_251 ?_
          rw [ix3]
          refine va_iald hx hb hK hP 4 0 rfl rfl (vp_in_nI (by omega) (by omega)) dX4_joinAll_252 ?_
          rw [show (nI (3 * y + k)).toNatClampNeg = (3 * y + k) from nI_clamp (by omega)]
          rw [ay]
          have hPc := hP.sub (ws' := [(mA 0, .inr (4, [.int th, .ref (mA 1), .ref (mA 2), .ref (mA 3), .int (nI (mx_n T)), .int (nI (mx_m F)), .ref (mA 4), .ref (mA 5), .ref (mA 6), .ref (mA 7), .ref (mA 8), .ref (mA 9), .int jo, .ref (mA 10), .ref (mA 11)])), (mA 9, .inl (cI, 60, .inl le))]) [0, 8] rfl
          have hDc := hD.sub (ws' := [(mA 0, .inr (4, [.int th, .ref (mA 1), .ref (mA 2), .ref (mA 3), .int (nI (mx_n T)), .int (nI (mx_m F)), .ref (mA 4), .ref (mA 5), .ref (mA 6), .ref (mA 7), .ref (mA 8), .ref (mA 9), .int jo, .ref (mA 10), .ref (mA 11)])), (mA 9, .inl (cI, 60, .inl le))]) [0, 8] (by decide) rfl
          have hFc := va_free (wc := [(mA 0, .inr (4, [.int th, .ref (mA 1), .ref (mA 2), .ref (mA 3), .int (nI (mx_n T)), .int (nI (mx_m F)), .ref (mA 4), .ref (mA 5), .ref (mA 6), .ref (mA 7), .ref (mA 8), .ref (mA 9), .int jo, .ref (mA 10), .ref (mA 11)])), (mA 9, .inl (cI, 60, .inl le))]) hD hS hA [0, 8] rfl
          refine va_callv (va_runV (As := [.int (nI p0), .int (nI q0)]) (rest := []) ⟨hx, hb, hml, hown, hts⟩ (m_join l dC dI cI cJ cZ T F nn mA th jo le p0 q0 H.size hn hI.1 lp lq) (cwV 2 hts (w0_goodV woX4_joinAll wd_590 wd_587 wd_589 ws_17 wd_5) rfl rfl rfl (by decide +kernel) ⟨Nat.le_of_ble_eq_true rfl, Nat.le_of_ble_eq_true rfl⟩) ⟨fun a U g mk q => by obtain ⟨q0, q1, qP, qK, qD⟩ := q; exact ⟨q0, q1, qP, va_K.moved (u := U) (U := U.calling g mk a) (Vm.Alike.refl U.vm) qK, qD⟩, va_recv hK hP (ci := 4) (q0 := 0) rfl rfl, fun U hU hW => ⟨rfl, by rw [hU], by rw [hU]; exact hPc, va_K.moved hW.alike hK, hDc.weaken (fun _ _ _ _ => trivial)⟩⟩ rfl rfl hl.1 rfl (lv_room (Nat.le_of_ble_eq_true rfl)) dX4_joinAll_253 ⟨Nat.zero_le _, Nat.zero_le _⟩) hS (fun q _ h => hFc q h) hFc (fun u t8 H1 locs ht8 hvm hu hB hz1 hk1 hS => ?_)
          obtain ⟨le2_1, jo2_1⟩ := u
          obtain ⟨hP1, hK1, hD1⟩ := hB
          rw [ht8] at hP1
          try dsimp only at hu
          obtain ⟨hP, hD⟩ := va_join (wr := [(mA 1, .inl (cZ, 16, .inl isb)), (mA 3, .inl (cI, 16, .inl pls)), (mA 4, .inl (cI, 60, .inl msg)), (mA 5, .inl (cI, 180, .inl at_)), (mA 6, .inl (cI, 40, .inl on)), (mA 7, .inl (cI, 40, .inl tw)), (mA 8, .inl (cZ, 40, .inl sa))]) (w1 := [(mA 0, .inr (4, [.int th, .ref (mA 1), .ref (mA 2), .ref (mA 3), .int (nI (mx_n T)), .int (nI (mx_m F)), .ref (mA 4), .ref (mA 5), .ref (mA 6), .ref (mA 7), .ref (mA 8), .ref (mA 9), .int jo2_1, .ref (mA 10), .ref (mA 11)])), (mA 9, .inl (cI, 60, .inl le2_1))]) hP hD [0, 8] [1, 2, 3, 4, 5, 6, 7] rfl rfl (by decide) (by decide) hk1 hFc hP1 hD1
          have hP := hP.sub (ws' := [(mA 0, .inr (4, [.int th, .ref (mA 1), .ref (mA 2), .ref (mA 3), .int (nI (mx_n T)), .int (nI (mx_m F)), .ref (mA 4), .ref (mA 5), .ref (mA 6), .ref (mA 7), .ref (mA 8), .ref (mA 9), .int jo2_1, .ref (mA 10), .ref (mA 11)])), (mA 1, .inl (cZ, 16, .inl isb)), (mA 3, .inl (cI, 16, .inl pls)), (mA 4, .inl (cI, 60, .inl msg)), (mA 5, .inl (cI, 180, .inl at_)), (mA 6, .inl (cI, 40, .inl on)), (mA 7, .inl (cI, 40, .inl tw)), (mA 8, .inl (cZ, 40, .inl sa)), (mA 9, .inl (cI, 60, .inl le2_1))]) [7, 0, 1, 2, 3, 4, 5, 6, 8] rfl
          have hD := hD.sub (ws' := [(mA 0, .inr (4, [.int th, .ref (mA 1), .ref (mA 2), .ref (mA 3), .int (nI (mx_n T)), .int (nI (mx_m F)), .ref (mA 4), .ref (mA 5), .ref (mA 6), .ref (mA 7), .ref (mA 8), .ref (mA 9), .int jo2_1, .ref (mA 10), .ref (mA 11)])), (mA 1, .inl (cZ, 16, .inl isb)), (mA 3, .inl (cI, 16, .inl pls)), (mA 4, .inl (cI, 60, .inl msg)), (mA 5, .inl (cI, 180, .inl at_)), (mA 6, .inl (cI, 40, .inl on)), (mA 7, .inl (cI, 40, .inl tw)), (mA 8, .inl (cZ, 40, .inl sa)), (mA 9, .inl (cI, 60, .inl le2_1))]) [7, 0, 1, 2, 3, 4, 5, 6, 8] (by decide) rfl
          generalize H1 = H at hP hS ⊢
          obtain ⟨nn2, j1, j2, j3, j4⟩ := pa_join hI (fun R hR hs9 => by have z := hR.2.2.2.2 x y hx0 hy0 hs hbt (hs9 x y ⟨hx0, hy0, exy⟩) k (by omega); rw [hp0, hq0] at z; exact z) hu
          obtain ⟨y_2, ey_2⟩ : ∃ y9 : Int32, y9 = (nI k) + 1 := ⟨_, rfl⟩
          refine lv_iinc (v := y_2) (lv' := [(7, .int y_2), (0, .ref (mA 0)), (5, .int (nI x)), (6, .int (nI y))]) hx hb dX4_joinAll_256 hl (k := 3) rfl (by rw [ey_2]; rfl) (by decide) rfl (fun ls hl => ?_)
          refine lv_goto (tgt := 179) hx hb dX4_joinAll_259 (by decide) ?_
          rw [ey_2, nI_1] at hl
          refine ih (k + 1) nn2 le2_1 jo2_1 _ _ _ (by omega) j1 (fun z => by obtain ⟨q1, q2⟩ := j3 z; rw [q1]; exact h1 q2) (fun j p q hj g1 g2 => ?_) hP hD hS (lv_sub hl [1, 2, 3, 0] rfl)
          rcases (show j < k ∨ j = k by omega) with z | rfl
          · exact j4 p q (Nat.lt_trans (hw.1 x j p hx0 g1) hx0) (Nat.lt_trans (hw.1 y j q hy0 g2) hy0) (h2 j p q z g1 g2)
          · rw [hp0] at g1; rw [hq0] at g2; cases g1; cases g2; exact j2

set_option maxHeartbeats 4000000 in
set_option maxRecDepth 100000 in
theorem ja_5 {p : Program} {l : Launch} {e : Env} {s : State} {m : MethodId} {args : Array Value} {below : List Frame} {meth : Method} {c : Code} {Q : State → Prop} (hx : p.tables.exec = Jvm.exec) (hb : c.code = cX4_joinAll) (hown : s.vm.findClass RX4 = some m.cls) (hts : ∀ w ∈ wsX4_joinAll, w.before args s = true) {dC : Nat → ClassId} {dI : Nat → Nat → Nat} {cI cJ cZ : ClassId} (hK : va_K (dC, dI) vwCl [(cI, .int), (cJ, .long), (cZ, .boolean)] s) {T : mx_T} {F : mx_F} {mA : Nat → Nat} {th : Int32} {isb : Nat → Int32} {pls : Nat → Int32} {msg : Nat → Int32} {at_ : Nat → Int32} {on : Nat → Int32} {tw : Nat → Int32} {sa : Nat → Int32} {E : Nat → Nat → Prop} {r0 : Nat} {x : Nat} (hw : mx_wf T) (hpf : mx_pf T) (hn : mx_n T ≤ 60) (hmt : md_T T isb pls msg at_) (hmf : mx_m F ≤ 40 ∧ ∀ f, f < mx_m F → on f = nI (mx_lf F f) ∧ tw f = nI (mx_rt F f) ∧ mx_lf F f < mx_n T ∧ mx_rt F f < mx_n T ∧ sa f = (if mx_sm F f = true then 1 else 0)) (hx0 : x < mx_n T) {A : Nat → Prop} {H0 : Heap} (hA : ∀ q : Nat, H0.size ≤ q → A q) (hml : c.maxLocals = 8) (kk : ∀ (nn : Nat → Nat) (le : Nat → Int32) (jo : Int32) (H : Heap) (locs : List Loc) (ls : Array Slot), (pa_I T E r0 (fun u v => v < u ∧ (u < x ∨ (u = x ∧ v < x))) nn le jo) → va_P (dC, dI) vwCl [(mA 0, .inr (4, [.int th, .ref (mA 1), .ref (mA 2), .ref (mA 3), .int (nI (mx_n T)), .int (nI (mx_m F)), .ref (mA 4), .ref (mA 5), .ref (mA 6), .ref (mA 7), .ref (mA 8), .ref (mA 9), .int jo, .ref (mA 10), .ref (mA 11)])), (mA 1, .inl (cZ, 16, .inl isb)), (mA 3, .inl (cI, 16, .inl pls)), (mA 4, .inl (cI, 60, .inl msg)), (mA 5, .inl (cI, 180, .inl at_)), (mA 6, .inl (cI, 40, .inl on)), (mA 7, .inl (cI, 40, .inl tw)), (mA 8, .inl (cZ, 40, .inl sa)), (mA 9, .inl (cI, 60, .inl le))] H → va_D A [(mA 0, .inr (4, [.int th, .ref (mA 1), .ref (mA 2), .ref (mA 3), .int (nI (mx_n T)), .int (nI (mx_m F)), .ref (mA 4), .ref (mA 5), .ref (mA 6), .ref (mA 7), .ref (mA 8), .ref (mA 9), .int jo, .ref (mA 10), .ref (mA 11)])), (mA 1, .inl (cZ, 16, .inl isb)), (mA 3, .inl (cI, 16, .inl pls)), (mA 4, .inl (cI, 60, .inl msg)), (mA 5, .inl (cI, 180, .inl at_)), (mA 6, .inl (cI, 40, .inl on)), (mA 7, .inl (cI, 40, .inl tw)), (mA 8, .inl (cZ, 40, .inl sa)), (mA 9, .inl (cI, 60, .inl le))] → va_S A H0 H locs → lv_has ls 8 [(0, .ref (mA 0)), (5, .int (nI x))] → W p l e ({ frames := 1, cells := 0, slots := 0, locals := 26 }) s m args below meth c H locs 0 0 Q (F0 m 268 ls [])) : ∀ (d : Nat) (y : Nat) (nn : Nat → Nat) (le : Nat → Int32) (jo : Int32) (H : Heap) (locs : List Loc) (ls : Array Slot), (y + d = x) → (pa_I T E r0 (fun u v => v < u ∧ (u < x ∨ (u = x ∧ v < y))) nn le jo) → va_P (dC, dI) vwCl [(mA 0, .inr (4, [.int th, .ref (mA 1), .ref (mA 2), .ref (mA 3), .int (nI (mx_n T)), .int (nI (mx_m F)), .ref (mA 4), .ref (mA 5), .ref (mA 6), .ref (mA 7), .ref (mA 8), .ref (mA 9), .int jo, .ref (mA 10), .ref (mA 11)])), (mA 1, .inl (cZ, 16, .inl isb)), (mA 3, .inl (cI, 16, .inl pls)), (mA 4, .inl (cI, 60, .inl msg)), (mA 5, .inl (cI, 180, .inl at_)), (mA 6, .inl (cI, 40, .inl on)), (mA 7, .inl (cI, 40, .inl tw)), (mA 8, .inl (cZ, 40, .inl sa)), (mA 9, .inl (cI, 60, .inl le))] H → va_D A [(mA 0, .inr (4, [.int th, .ref (mA 1), .ref (mA 2), .ref (mA 3), .int (nI (mx_n T)), .int (nI (mx_m F)), .ref (mA 4), .ref (mA 5), .ref (mA 6), .ref (mA 7), .ref (mA 8), .ref (mA 9), .int jo, .ref (mA 10), .ref (mA 11)])), (mA 1, .inl (cZ, 16, .inl isb)), (mA 3, .inl (cI, 16, .inl pls)), (mA 4, .inl (cI, 60, .inl msg)), (mA 5, .inl (cI, 180, .inl at_)), (mA 6, .inl (cI, 40, .inl on)), (mA 7, .inl (cI, 40, .inl tw)), (mA 8, .inl (cZ, 40, .inl sa)), (mA 9, .inl (cI, 60, .inl le))] → va_S A H0 H locs → lv_has ls 8 [(0, .ref (mA 0)), (5, .int (nI x)), (6, .int (nI y))] → W p l e ({ frames := 1, cells := 0, slots := 0, locals := 26 }) s m args below meth c H locs 0 0 Q (F0 m 130 ls []) := by
  intro d
  induction d with
  | zero =>
    intro y nn le jo H locs ls hd hI hP hD hS hl
    refine lv_iload hx hb dX4_joinAll_130 (lv_at hl 2 rfl) ?_
    refine lv_iload hx hb dX4_joinAll_132 (lv_at hl 1 rfl) ?_
    refine lv_icmp_ge (tgt := 268) hx hb dX4_joinAll_134 (by decide) (fun c1 => ?_) (fun c1 => ?_)
    · have e : y = x := by omega
      rw [e] at hI
      refine kk nn le jo _ _ _ hI hP hD hS (lv_sub hl [0, 1] rfl)
    · exact absurd (nI_le (a := x) (b := y) (by omega) (by omega)) c1
  | succ d ih =>
    intro y nn le jo H locs ls hd hI hP hD hS hl
    have hyx : y < x := by omega
    have hy0 : y < mx_n T := by omega
    obtain ⟨e1, e2, -, -⟩ := hmt.1 x hx0
    obtain ⟨f1, f2, -, -⟩ := hmt.1 y hy0
    refine lv_iload hx hb dX4_joinAll_130 (lv_at hl 2 rfl) ?_
    refine lv_iload hx hb dX4_joinAll_132 (lv_at hl 1 rfl) ?_
    refine lv_icmp_ge (tgt := 268) hx hb dX4_joinAll_134 (by decide) (fun c1 => ?_) (fun c1 => ?_)
    · exact absurd c1 (nI_ge hyx (by omega))
    · refine lv_aload_n hx hb dX4_joinAll_137 rfl (lv_at hl 0 rfl) ?_
      refine va_get (D := (dC, dI)) (ci := 4) (v := .ref (mA 4)) (C := RX4) (T := TX4) (N := 15) hx hb hts (fun w h => woX4_joinAll w (inX4 w h)) hown hK hP 0 rfl rfl 6 (by decide) (hts _ (woX4_joinAll _ wd_499)) (fun _ h9 => h9) rfl dX4_joinAll_138 ?_
      refine lv_iload hx hb dX4_joinAll_141 (lv_at hl 1 rfl) ?_
      refine va_iald hx hb hK hP 3 0 rfl rfl (vp_in_nI (by omega) (by omega)) dX4_joinAll_143 ?_
      rw [show (nI x).toNatClampNeg = x from nI_clamp (by omega)]
      rw [e1]
      refine lv_aload_n hx hb dX4_joinAll_144 rfl (lv_at hl 0 rfl) ?_
      refine va_get (D := (dC, dI)) (ci := 4) (v := .ref (mA 4)) (C := RX4) (T := TX4) (N := 15) hx hb hts (fun w h => woX4_joinAll w (inX4 w h)) hown hK hP 0 rfl rfl 6 (by decide) (hts _ (woX4_joinAll _ wd_499)) (fun _ h9 => h9) rfl dX4_joinAll_145 ?_
      refine lv_iload hx hb dX4_joinAll_148 (lv_at hl 2 rfl) ?_
      refine va_iald hx hb hK hP 3 0 rfl rfl (vp_in_nI (by omega) (by omega)) dX4_joinAll_150 ?_
      rw [show (nI y).toNatClampNeg = y from nI_clamp (by omega)]
      rw [f1]
      refine lv_icmp_eq (tgt := 157) hx hb dX4_joinAll_151 (by decide) (fun c2 => ?_) (fun c2 => ?_)
      · have hs : mx_sg T x = mx_sg T y := (nI_eq (by omega) (by omega)).mp c2
        refine lv_aload_n hx hb dX4_joinAll_157 rfl (lv_at hl 0 rfl) ?_
        refine lv_iload hx hb dX4_joinAll_158 (lv_at hl 1 rfl) ?_
        refine lv_iload hx hb dX4_joinAll_160 (lv_at hl 2 rfl) ?_
        have hPc := hP.sub (ws' := [(mA 0, .inr (4, [.int th, .ref (mA 1), .ref (mA 2), .ref (mA 3), .int (nI (mx_n T)), .int (nI (mx_m F)), .ref (mA 4), .ref (mA 5), .ref (mA 6), .ref (mA 7), .ref (mA 8), .ref (mA 9), .int jo, .ref (mA 10), .ref (mA 11)])), (mA 3, .inl (cI, 16, .inl pls)), (mA 4, .inl (cI, 60, .inl msg)), (mA 5, .inl (cI, 180, .inl at_)), (mA 9, .inl (cI, 60, .inl le))]) [0, 2, 3, 4, 8] rfl
        refine vp_callSi (W.runV (As := [.int (nI x), .int (nI y)]) (rest := []) ⟨hx, hb, hml, hown, hts⟩ (m_areAlike l dC dI cI cJ cZ T F nn mA th jo isb pls msg at_ le x y hw hpf hn hmt hI.1 hx0 hy0 hs) (cwV 2 hts (w0_goodV woX4_joinAll wd_594 wd_591 wd_593 ws_18 wd_5) rfl rfl rfl (by decide +kernel) ⟨Nat.le_of_ble_eq_true rfl, Nat.le_of_ble_eq_true rfl⟩) ⟨fun a U g mk q => by obtain ⟨q0, qP, qK⟩ := q; exact ⟨q0, qP, va_K.moved (u := U) (U := U.calling g mk a) (Vm.Alike.refl U.vm) qK⟩, va_recv hK hP (ci := 4) (q0 := 0) rfl rfl, fun U hU hW => ⟨rfl, by rw [hU]; exact hPc, va_K.moved hW.alike hK⟩⟩ rfl rfl hl.1 rfl (lv_room (Nat.le_of_ble_eq_true rfl)) dX4_joinAll_162 ⟨Nat.zero_le _, Nat.zero_le _⟩) (fun r1 hr1 => ?_)
        refine lv_if_eq (tgt := 176) hx hb dX4_joinAll_165 (by decide) (fun c3 => ?_) (fun c3 => ?_)
        · refine lv_iconst (v := 0) hx hb dX4_joinAll_176 (by decide) ?_
          refine lv_istore (lv' := [(7, .int 0), (0, .ref (mA 0)), (5, .int (nI x)), (6, .int (nI y))]) hx hb dX4_joinAll_177 hl (by decide) rfl (fun ls hl => ?_)
          refine ja_6 hx hb hown hts hK hw hpf hn hmt hmf hx0 hy0 hs hA hml (fun nn6 le6 jo6 H locs ls hI6 hP hD hS hl => ?_) (mx_ar (mx_pl T) x) 0 nn le jo _ _ _ (by omega) hI (fun _ z => absurd z (zb_f hr1 c3)) (fun j p q hj => absurd hj (Nat.not_lt_zero j)) hP hD hS (lv_sub hl [1, 2, 3, 0] rfl)
          obtain ⟨y_1, ey_1⟩ : ∃ y9 : Int32, y9 = (nI y) + 1 := ⟨_, rfl⟩
          refine lv_iinc (v := y_1) (lv' := [(6, .int y_1), (0, .ref (mA 0)), (5, .int (nI x))]) hx hb dX4_joinAll_262 hl (k := 2) rfl (by rw [ey_1]; rfl) (by decide) rfl (fun ls hl => ?_)
          refine lv_goto (tgt := 130) hx hb dX4_joinAll_265 (by decide) ?_
          rw [ey_1, nI_1] at hl
          refine ih (y + 1) nn6 le6 jo6 _ _ _ (by omega) (hI6.to (fun hj u v q => ?_)) hP hD hS (lv_sub hl [1, 2, 0] rfl)
          rcases q with ⟨q1, q2 | ⟨q2, q3⟩⟩
          · exact Or.inl (Or.inl ⟨q1, Or.inl q2⟩)
          · rcases (show v < y ∨ v = y by omega) with q4 | q4
            · exact Or.inl (Or.inl ⟨q1, Or.inr ⟨q2, q4⟩⟩)
            · subst q2; subst q4; exact Or.inl (Or.inr ⟨rfl, rfl⟩)
        · refine lv_aload_n hx hb dX4_joinAll_168 rfl (lv_at hl 0 rfl) ?_
          refine lv_iload hx hb dX4_joinAll_169 (lv_at hl 1 rfl) ?_
          refine lv_iload hx hb dX4_joinAll_171 (lv_at hl 2 rfl) ?_
          have hPc := hP.sub (ws' := [(mA 0, .inr (4, [.int th, .ref (mA 1), .ref (mA 2), .ref (mA 3), .int (nI (mx_n T)), .int (nI (mx_m F)), .ref (mA 4), .ref (mA 5), .ref (mA 6), .ref (mA 7), .ref (mA 8), .ref (mA 9), .int jo, .ref (mA 10), .ref (mA 11)])), (mA 9, .inl (cI, 60, .inl le))]) [0, 8] rfl
          have hDc := hD.sub (ws' := [(mA 0, .inr (4, [.int th, .ref (mA 1), .ref (mA 2), .ref (mA 3), .int (nI (mx_n T)), .int (nI (mx_m F)), .ref (mA 4), .ref (mA 5), .ref (mA 6), .ref (mA 7), .ref (mA 8), .ref (mA 9), .int jo, .ref (mA 10), .ref (mA 11)])), (mA 9, .inl (cI, 60, .inl le))]) [0, 8] (by decide) rfl
          have hFc := va_free (wc := [(mA 0, .inr (4, [.int th, .ref (mA 1), .ref (mA 2), .ref (mA 3), .int (nI (mx_n T)), .int (nI (mx_m F)), .ref (mA 4), .ref (mA 5), .ref (mA 6), .ref (mA 7), .ref (mA 8), .ref (mA 9), .int jo, .ref (mA 10), .ref (mA 11)])), (mA 9, .inl (cI, 60, .inl le))]) hD hS hA [0, 8] rfl
          refine va_callv (va_runV (As := [.int (nI x), .int (nI y)]) (rest := []) ⟨hx, hb, hml, hown, hts⟩ (m_join l dC dI cI cJ cZ T F nn mA th jo le x y H.size hn hI.1 hx0 hy0) (cwV 2 hts (w0_goodV woX4_joinAll wd_590 wd_587 wd_589 ws_17 wd_5) rfl rfl rfl (by decide +kernel) ⟨Nat.le_of_ble_eq_true rfl, Nat.le_of_ble_eq_true rfl⟩) ⟨fun a U g mk q => by obtain ⟨q0, q1, qP, qK, qD⟩ := q; exact ⟨q0, q1, qP, va_K.moved (u := U) (U := U.calling g mk a) (Vm.Alike.refl U.vm) qK, qD⟩, va_recv hK hP (ci := 4) (q0 := 0) rfl rfl, fun U hU hW => ⟨rfl, by rw [hU], by rw [hU]; exact hPc, va_K.moved hW.alike hK, hDc.weaken (fun _ _ _ _ => trivial)⟩⟩ rfl rfl hl.1 rfl (lv_room (Nat.le_of_ble_eq_true rfl)) dX4_joinAll_173 ⟨Nat.zero_le _, Nat.zero_le _⟩) hS (fun q _ h => hFc q h) hFc (fun u t8 H1 locs ht8 hvm hu hB hz1 hk1 hS => ?_)
          obtain ⟨le2_2, jo2_2⟩ := u
          obtain ⟨hP1, hK1, hD1⟩ := hB
          rw [ht8] at hP1
          try dsimp only at hu
          obtain ⟨hP, hD⟩ := va_join (wr := [(mA 1, .inl (cZ, 16, .inl isb)), (mA 3, .inl (cI, 16, .inl pls)), (mA 4, .inl (cI, 60, .inl msg)), (mA 5, .inl (cI, 180, .inl at_)), (mA 6, .inl (cI, 40, .inl on)), (mA 7, .inl (cI, 40, .inl tw)), (mA 8, .inl (cZ, 40, .inl sa))]) (w1 := [(mA 0, .inr (4, [.int th, .ref (mA 1), .ref (mA 2), .ref (mA 3), .int (nI (mx_n T)), .int (nI (mx_m F)), .ref (mA 4), .ref (mA 5), .ref (mA 6), .ref (mA 7), .ref (mA 8), .ref (mA 9), .int jo2_2, .ref (mA 10), .ref (mA 11)])), (mA 9, .inl (cI, 60, .inl le2_2))]) hP hD [0, 8] [1, 2, 3, 4, 5, 6, 7] rfl rfl (by decide) (by decide) hk1 hFc hP1 hD1
          have hP := hP.sub (ws' := [(mA 0, .inr (4, [.int th, .ref (mA 1), .ref (mA 2), .ref (mA 3), .int (nI (mx_n T)), .int (nI (mx_m F)), .ref (mA 4), .ref (mA 5), .ref (mA 6), .ref (mA 7), .ref (mA 8), .ref (mA 9), .int jo2_2, .ref (mA 10), .ref (mA 11)])), (mA 1, .inl (cZ, 16, .inl isb)), (mA 3, .inl (cI, 16, .inl pls)), (mA 4, .inl (cI, 60, .inl msg)), (mA 5, .inl (cI, 180, .inl at_)), (mA 6, .inl (cI, 40, .inl on)), (mA 7, .inl (cI, 40, .inl tw)), (mA 8, .inl (cZ, 40, .inl sa)), (mA 9, .inl (cI, 60, .inl le2_2))]) [7, 0, 1, 2, 3, 4, 5, 6, 8] rfl
          have hD := hD.sub (ws' := [(mA 0, .inr (4, [.int th, .ref (mA 1), .ref (mA 2), .ref (mA 3), .int (nI (mx_n T)), .int (nI (mx_m F)), .ref (mA 4), .ref (mA 5), .ref (mA 6), .ref (mA 7), .ref (mA 8), .ref (mA 9), .int jo2_2, .ref (mA 10), .ref (mA 11)])), (mA 1, .inl (cZ, 16, .inl isb)), (mA 3, .inl (cI, 16, .inl pls)), (mA 4, .inl (cI, 60, .inl msg)), (mA 5, .inl (cI, 180, .inl at_)), (mA 6, .inl (cI, 40, .inl on)), (mA 7, .inl (cI, 40, .inl tw)), (mA 8, .inl (cZ, 40, .inl sa)), (mA 9, .inl (cI, 60, .inl le2_2))]) [7, 0, 1, 2, 3, 4, 5, 6, 8] (by decide) rfl
          generalize H1 = H at hP hS ⊢
          have hal := zb_t hr1 c3
          obtain ⟨nn2, j1, j2, j3, j4⟩ := pa_join hI (fun R hR hs9 => hR.2.2.2.1 x y hx0 hy0 hs (fun j hj => mx_pr.mono hs9 (hal j hj))) hu
          refine lv_iconst (v := 0) hx hb dX4_joinAll_176 (by decide) ?_
          refine lv_istore (lv' := [(7, .int 0), (0, .ref (mA 0)), (5, .int (nI x)), (6, .int (nI y))]) hx hb dX4_joinAll_177 hl (by decide) rfl (fun ls hl => ?_)
          refine ja_6 hx hb hown hts hK hw hpf hn hmt hmf hx0 hy0 hs hA hml (fun nn6 le6 jo6 H locs ls hI6 hP hD hS hl => ?_) (mx_ar (mx_pl T) x) 0 nn2 le2_2 jo2_2 _ _ _ (by omega) j1 (fun _ _ => j2) (fun j p q hj => absurd hj (Nat.not_lt_zero j)) hP hD hS (lv_sub hl [1, 2, 3, 0] rfl)
          obtain ⟨y_3, ey_3⟩ : ∃ y9 : Int32, y9 = (nI y) + 1 := ⟨_, rfl⟩
          refine lv_iinc (v := y_3) (lv' := [(6, .int y_3), (0, .ref (mA 0)), (5, .int (nI x))]) hx hb dX4_joinAll_262 hl (k := 2) rfl (by rw [ey_3]; rfl) (by decide) rfl (fun ls hl => ?_)
          refine lv_goto (tgt := 130) hx hb dX4_joinAll_265 (by decide) ?_
          rw [ey_3, nI_1] at hl
          refine ih (y + 1) nn6 le6 jo6 _ _ _ (by omega) (hI6.to (fun hj u v q => ?_)) hP hD hS (lv_sub hl [1, 2, 0] rfl)
          rcases q with ⟨q1, q2 | ⟨q2, q3⟩⟩
          · exact Or.inl (Or.inl ⟨q1, Or.inl q2⟩)
          · rcases (show v < y ∨ v = y by omega) with q4 | q4
            · exact Or.inl (Or.inl ⟨q1, Or.inr ⟨q2, q4⟩⟩)
            · subst q2; subst q4; exact Or.inl (Or.inr ⟨rfl, rfl⟩)
      · have hns : ¬ mx_sg T x = mx_sg T y := fun z => c2 (by rw [z])
        refine lv_goto (tgt := 262) hx hb dX4_joinAll_154 (by decide) ?_
        obtain ⟨y_4, ey_4⟩ : ∃ y9 : Int32, y9 = (nI y) + 1 := ⟨_, rfl⟩
        refine lv_iinc (v := y_4) (lv' := [(6, .int y_4), (0, .ref (mA 0)), (5, .int (nI x))]) hx hb dX4_joinAll_262 hl (k := 2) rfl (by rw [ey_4]; rfl) (by decide) rfl (fun ls hl => ?_)
        refine lv_goto (tgt := 130) hx hb dX4_joinAll_265 (by decide) ?_
        rw [ey_4, nI_1] at hl
        refine ih (y + 1) nn le jo _ _ _ (by omega) (hI.to (fun hj u v q => ?_)) hP hD hS (lv_sub hl [1, 2, 0] rfl)
        rcases q with ⟨q1, q2 | ⟨q2, q3⟩⟩
        · exact Or.inl ⟨q1, Or.inl q2⟩
        · rcases (show v < y ∨ v = y by omega) with q4 | q4
          · exact Or.inl ⟨q1, Or.inr ⟨q2, q4⟩⟩
          · subst q2; subst q4; exact Or.inr (fun z => absurd z hns)

set_option maxHeartbeats 4000000 in
set_option maxRecDepth 100000 in
theorem ja_4 {p : Program} {l : Launch} {e : Env} {s : State} {m : MethodId} {args : Array Value} {below : List Frame} {meth : Method} {c : Code} {Q : State → Prop} (hx : p.tables.exec = Jvm.exec) (hb : c.code = cX4_joinAll) (hown : s.vm.findClass RX4 = some m.cls) (hts : ∀ w ∈ wsX4_joinAll, w.before args s = true) {dC : Nat → ClassId} {dI : Nat → Nat → Nat} {cI cJ cZ : ClassId} (hK : va_K (dC, dI) vwCl [(cI, .int), (cJ, .long), (cZ, .boolean)] s) {T : mx_T} {F : mx_F} {mA : Nat → Nat} {th : Int32} {isb : Nat → Int32} {pls : Nat → Int32} {msg : Nat → Int32} {at_ : Nat → Int32} {on : Nat → Int32} {tw : Nat → Int32} {sa : Nat → Int32} {E : Nat → Nat → Prop} {r0 : Nat} (hw : mx_wf T) (hpf : mx_pf T) (hn : mx_n T ≤ 60) (hmt : md_T T isb pls msg at_) (hmf : mx_m F ≤ 40 ∧ ∀ f, f < mx_m F → on f = nI (mx_lf F f) ∧ tw f = nI (mx_rt F f) ∧ mx_lf F f < mx_n T ∧ mx_rt F f < mx_n T ∧ sa f = (if mx_sm F f = true then 1 else 0)) {A : Nat → Prop} {H0 : Heap} (hA : ∀ q : Nat, H0.size ≤ q → A q) (hml : c.maxLocals = 8) (kk : ∀ (nn : Nat → Nat) (le : Nat → Int32) (jo : Int32) (H : Heap) (locs : List Loc) (ls : Array Slot), (pa_I T E r0 (fun u v => v < u ∧ u < mx_n T) nn le jo) → va_P (dC, dI) vwCl [(mA 0, .inr (4, [.int th, .ref (mA 1), .ref (mA 2), .ref (mA 3), .int (nI (mx_n T)), .int (nI (mx_m F)), .ref (mA 4), .ref (mA 5), .ref (mA 6), .ref (mA 7), .ref (mA 8), .ref (mA 9), .int jo, .ref (mA 10), .ref (mA 11)])), (mA 1, .inl (cZ, 16, .inl isb)), (mA 3, .inl (cI, 16, .inl pls)), (mA 4, .inl (cI, 60, .inl msg)), (mA 5, .inl (cI, 180, .inl at_)), (mA 6, .inl (cI, 40, .inl on)), (mA 7, .inl (cI, 40, .inl tw)), (mA 8, .inl (cZ, 40, .inl sa)), (mA 9, .inl (cI, 60, .inl le))] H → va_D A [(mA 0, .inr (4, [.int th, .ref (mA 1), .ref (mA 2), .ref (mA 3), .int (nI (mx_n T)), .int (nI (mx_m F)), .ref (mA 4), .ref (mA 5), .ref (mA 6), .ref (mA 7), .ref (mA 8), .ref (mA 9), .int jo, .ref (mA 10), .ref (mA 11)])), (mA 1, .inl (cZ, 16, .inl isb)), (mA 3, .inl (cI, 16, .inl pls)), (mA 4, .inl (cI, 60, .inl msg)), (mA 5, .inl (cI, 180, .inl at_)), (mA 6, .inl (cI, 40, .inl on)), (mA 7, .inl (cI, 40, .inl tw)), (mA 8, .inl (cZ, 40, .inl sa)), (mA 9, .inl (cI, 60, .inl le))] → va_S A H0 H locs → lv_has ls 8 [(0, .ref (mA 0))] → W p l e ({ frames := 1, cells := 0, slots := 0, locals := 26 }) s m args below meth c H locs 0 0 Q (F0 m 274 ls [])) : ∀ (d : Nat) (x : Nat) (nn : Nat → Nat) (le : Nat → Int32) (jo : Int32) (H : Heap) (locs : List Loc) (ls : Array Slot), (x + d = mx_n T) → (pa_I T E r0 (fun u v => v < u ∧ u < x) nn le jo) → va_P (dC, dI) vwCl [(mA 0, .inr (4, [.int th, .ref (mA 1), .ref (mA 2), .ref (mA 3), .int (nI (mx_n T)), .int (nI (mx_m F)), .ref (mA 4), .ref (mA 5), .ref (mA 6), .ref (mA 7), .ref (mA 8), .ref (mA 9), .int jo, .ref (mA 10), .ref (mA 11)])), (mA 1, .inl (cZ, 16, .inl isb)), (mA 3, .inl (cI, 16, .inl pls)), (mA 4, .inl (cI, 60, .inl msg)), (mA 5, .inl (cI, 180, .inl at_)), (mA 6, .inl (cI, 40, .inl on)), (mA 7, .inl (cI, 40, .inl tw)), (mA 8, .inl (cZ, 40, .inl sa)), (mA 9, .inl (cI, 60, .inl le))] H → va_D A [(mA 0, .inr (4, [.int th, .ref (mA 1), .ref (mA 2), .ref (mA 3), .int (nI (mx_n T)), .int (nI (mx_m F)), .ref (mA 4), .ref (mA 5), .ref (mA 6), .ref (mA 7), .ref (mA 8), .ref (mA 9), .int jo, .ref (mA 10), .ref (mA 11)])), (mA 1, .inl (cZ, 16, .inl isb)), (mA 3, .inl (cI, 16, .inl pls)), (mA 4, .inl (cI, 60, .inl msg)), (mA 5, .inl (cI, 180, .inl at_)), (mA 6, .inl (cI, 40, .inl on)), (mA 7, .inl (cI, 40, .inl tw)), (mA 8, .inl (cZ, 40, .inl sa)), (mA 9, .inl (cI, 60, .inl le))] → va_S A H0 H locs → lv_has ls 8 [(0, .ref (mA 0)), (5, .int (nI x))] → W p l e ({ frames := 1, cells := 0, slots := 0, locals := 26 }) s m args below meth c H locs 0 0 Q (F0 m 118 ls []) := by
  intro d
  induction d with
  | zero =>
    intro x nn le jo H locs ls hd hI hP hD hS hl
    refine lv_iload hx hb dX4_joinAll_118 (lv_at hl 1 rfl) ?_
    refine lv_aload_n hx hb dX4_joinAll_120 rfl (lv_at hl 0 rfl) ?_
    refine va_get (D := (dC, dI)) (ci := 4) (v := .int (nI (mx_n T))) (C := RX4) (T := TX4) (N := 15) hx hb hts (fun w h => woX4_joinAll w (inX4 w h)) hown hK hP 0 rfl rfl 4 (by decide) (hts _ (woX4_joinAll _ wd_497)) (fun _ h9 => h9) rfl dX4_joinAll_121 ?_
    refine lv_icmp_ge (tgt := 274) hx hb dX4_joinAll_124 (by decide) (fun c1 => ?_) (fun c1 => ?_)
    · have e : x = mx_n T := by omega
      rw [e] at hI
      refine kk nn le jo _ _ _ hI hP hD hS (lv_sub hl [0] rfl)
    · exact absurd (nI_le (a := mx_n T) (b := x) (by omega) (by omega)) c1
  | succ d ih =>
    intro x nn le jo H locs ls hd hI hP hD hS hl
    have hx0 : x < mx_n T := by omega
    refine lv_iload hx hb dX4_joinAll_118 (lv_at hl 1 rfl) ?_
    refine lv_aload_n hx hb dX4_joinAll_120 rfl (lv_at hl 0 rfl) ?_
    refine va_get (D := (dC, dI)) (ci := 4) (v := .int (nI (mx_n T))) (C := RX4) (T := TX4) (N := 15) hx hb hts (fun w h => woX4_joinAll w (inX4 w h)) hown hK hP 0 rfl rfl 4 (by decide) (hts _ (woX4_joinAll _ wd_497)) (fun _ h9 => h9) rfl dX4_joinAll_121 ?_
    refine lv_icmp_ge (tgt := 274) hx hb dX4_joinAll_124 (by decide) (fun c1 => ?_) (fun c1 => ?_)
    · exact absurd c1 (nI_ge hx0 (by omega))
    · refine lv_iconst (v := 0) hx hb dX4_joinAll_127 (by decide) ?_
      refine lv_istore (lv' := [(6, .int 0), (0, .ref (mA 0)), (5, .int (nI x))]) hx hb dX4_joinAll_128 hl (by decide) rfl (fun ls hl => ?_)
      refine ja_5 hx hb hown hts hK hw hpf hn hmt hmf hx0 hA hml (fun nn5 le5 jo5 H locs ls hI5 hP hD hS hl => ?_) x 0 nn le jo _ _ _ (by omega) (hI.to (fun _ u v q => Or.inl ⟨q.1, by omega⟩)) hP hD hS (lv_sub hl [1, 2, 0] rfl)
      obtain ⟨y_1, ey_1⟩ : ∃ y9 : Int32, y9 = (nI x) + 1 := ⟨_, rfl⟩
      refine lv_iinc (v := y_1) (lv' := [(5, .int y_1), (0, .ref (mA 0))]) hx hb dX4_joinAll_268 hl (k := 1) rfl (by rw [ey_1]; rfl) (by decide) rfl (fun ls hl => ?_)
      refine lv_goto (tgt := 118) hx hb dX4_joinAll_271 (by decide) ?_
      rw [ey_1, nI_1] at hl
      refine ih (x + 1) nn5 le5 jo5 _ _ _ (by omega) (hI5.to (fun _ u v q => Or.inl ⟨q.1, by omega⟩)) hP hD hS (lv_sub hl [1, 0] rfl)

set_option maxHeartbeats 4000000 in
set_option maxRecDepth 100000 in
theorem ja_3 {p : Program} {l : Launch} {e : Env} {s : State} {m : MethodId} {args : Array Value} {below : List Frame} {meth : Method} {c : Code} {Q : State → Prop} (hx : p.tables.exec = Jvm.exec) (hb : c.code = cX4_joinAll) (hown : s.vm.findClass RX4 = some m.cls) (hts : ∀ w ∈ wsX4_joinAll, w.before args s = true) {dC : Nat → ClassId} {dI : Nat → Nat → Nat} {cI cJ cZ : ClassId} (hK : va_K (dC, dI) vwCl [(cI, .int), (cJ, .long), (cZ, .boolean)] s) {T : mx_T} {F : mx_F} {mA : Nat → Nat} {th : Int32} {isb : Nat → Int32} {pls : Nat → Int32} {msg : Nat → Int32} {at_ : Nat → Int32} {on : Nat → Int32} {tw : Nat → Int32} {sa : Nat → Int32} {E : Nat → Nat → Prop} (hw : mx_wf T) (hpf : mx_pf T) (hn : mx_n T ≤ 60) (hmt : md_T T isb pls msg at_) (hmf : mx_m F ≤ 40 ∧ ∀ f, f < mx_m F → on f = nI (mx_lf F f) ∧ tw f = nI (mx_rt F f) ∧ mx_lf F f < mx_n T ∧ mx_rt F f < mx_n T ∧ sa f = (if mx_sm F f = true then 1 else 0)) {A : Nat → Prop} {H0 : Heap} (hA : ∀ q : Nat, H0.size ≤ q → A q) (hml : c.maxLocals = 8) (kk : ∀ (nn : Nat → Nat) (le : Nat → Int32) (jo : Int32) (H : Heap) (locs : List Loc) (ls : Array Slot), (md_L T nn le) → (mx_lst T E nn) → va_P (dC, dI) vwCl [(mA 0, .inr (4, [.int th, .ref (mA 1), .ref (mA 2), .ref (mA 3), .int (nI (mx_n T)), .int (nI (mx_m F)), .ref (mA 4), .ref (mA 5), .ref (mA 6), .ref (mA 7), .ref (mA 8), .ref (mA 9), .int jo, .ref (mA 10), .ref (mA 11)])), (mA 1, .inl (cZ, 16, .inl isb)), (mA 3, .inl (cI, 16, .inl pls)), (mA 4, .inl (cI, 60, .inl msg)), (mA 5, .inl (cI, 180, .inl at_)), (mA 6, .inl (cI, 40, .inl on)), (mA 7, .inl (cI, 40, .inl tw)), (mA 8, .inl (cZ, 40, .inl sa)), (mA 9, .inl (cI, 60, .inl le))] H → va_D A [(mA 0, .inr (4, [.int th, .ref (mA 1), .ref (mA 2), .ref (mA 3), .int (nI (mx_n T)), .int (nI (mx_m F)), .ref (mA 4), .ref (mA 5), .ref (mA 6), .ref (mA 7), .ref (mA 8), .ref (mA 9), .int jo, .ref (mA 10), .ref (mA 11)])), (mA 1, .inl (cZ, 16, .inl isb)), (mA 3, .inl (cI, 16, .inl pls)), (mA 4, .inl (cI, 60, .inl msg)), (mA 5, .inl (cI, 180, .inl at_)), (mA 6, .inl (cI, 40, .inl on)), (mA 7, .inl (cI, 40, .inl tw)), (mA 8, .inl (cZ, 40, .inl sa)), (mA 9, .inl (cI, 60, .inl le))] → va_S A H0 H locs → lv_has ls 8 [(0, .ref (mA 0))] → W p l e ({ frames := 1, cells := 0, slots := 0, locals := 26 }) s m args below meth c H locs 0 0 Q (F0 m 277 ls [])) : ∀ (d : Nat) (nn : Nat → Nat) (le : Nat → Int32) (jo : Int32) (H : Heap) (locs : List Loc) (ls : Array Slot), (jo = 1 → mx_rt0 T nn < d) → (ja_I T E nn le) → (jo = 0 ∨ jo = 1) → (jo = 0 → ∀ x y, y < x → x < mx_n T → ok2 T nn x y) → va_P (dC, dI) vwCl [(mA 0, .inr (4, [.int th, .ref (mA 1), .ref (mA 2), .ref (mA 3), .int (nI (mx_n T)), .int (nI (mx_m F)), .ref (mA 4), .ref (mA 5), .ref (mA 6), .ref (mA 7), .ref (mA 8), .ref (mA 9), .int jo, .ref (mA 10), .ref (mA 11)])), (mA 1, .inl (cZ, 16, .inl isb)), (mA 3, .inl (cI, 16, .inl pls)), (mA 4, .inl (cI, 60, .inl msg)), (mA 5, .inl (cI, 180, .inl at_)), (mA 6, .inl (cI, 40, .inl on)), (mA 7, .inl (cI, 40, .inl tw)), (mA 8, .inl (cZ, 40, .inl sa)), (mA 9, .inl (cI, 60, .inl le))] H → va_D A [(mA 0, .inr (4, [.int th, .ref (mA 1), .ref (mA 2), .ref (mA 3), .int (nI (mx_n T)), .int (nI (mx_m F)), .ref (mA 4), .ref (mA 5), .ref (mA 6), .ref (mA 7), .ref (mA 8), .ref (mA 9), .int jo, .ref (mA 10), .ref (mA 11)])), (mA 1, .inl (cZ, 16, .inl isb)), (mA 3, .inl (cI, 16, .inl pls)), (mA 4, .inl (cI, 60, .inl msg)), (mA 5, .inl (cI, 180, .inl at_)), (mA 6, .inl (cI, 40, .inl on)), (mA 7, .inl (cI, 40, .inl tw)), (mA 8, .inl (cZ, 40, .inl sa)), (mA 9, .inl (cI, 60, .inl le))] → va_S A H0 H locs → lv_has ls 8 [(0, .ref (mA 0))] → W p l e ({ frames := 1, cells := 0, slots := 0, locals := 26 }) s m args below meth c H locs 0 0 Q (F0 m 103 ls []) := by
  intro d
  induction d with
  | zero =>
    intro nn le jo H locs ls hd hI hj hz hP hD hS hl
    rcases hj with rfl | rfl
    · refine lv_aload_n hx hb dX4_joinAll_103 rfl (lv_at hl 0 rfl) ?_
      refine va_get (D := (dC, dI)) (ci := 4) (v := .int 0) (C := RX4) (T := TX4) (N := 15) hx hb hts (fun w h => woX4_joinAll w (inX4 w h)) hown hK hP 0 rfl rfl 12 (by decide) (hts _ (woX4_joinAll _ wd_505)) (fun _ h9 => h9) rfl dX4_joinAll_104 ?_
      refine lv_if_eq (tgt := 277) hx hb dX4_joinAll_107 (by decide) (fun c1 => ?_) (fun c1 => ?_)
      · refine kk nn le 0 _ _ _ hI.1 ⟨pa_fin hw (hz rfl), hI.2.1, hI.2.2⟩ hP hD hS (lv_sub hl [0] rfl)
      · exact absurd rfl c1
    · exact absurd (hd rfl) (Nat.not_lt_zero _)
  | succ d ih =>
    intro nn le jo H locs ls hd hI hj hz hP hD hS hl
    rcases hj with rfl | rfl
    · refine lv_aload_n hx hb dX4_joinAll_103 rfl (lv_at hl 0 rfl) ?_
      refine va_get (D := (dC, dI)) (ci := 4) (v := .int 0) (C := RX4) (T := TX4) (N := 15) hx hb hts (fun w h => woX4_joinAll w (inX4 w h)) hown hK hP 0 rfl rfl 12 (by decide) (hts _ (woX4_joinAll _ wd_505)) (fun _ h9 => h9) rfl dX4_joinAll_104 ?_
      refine lv_if_eq (tgt := 277) hx hb dX4_joinAll_107 (by decide) (fun c1 => ?_) (fun c1 => ?_)
      · refine kk nn le 0 _ _ _ hI.1 ⟨pa_fin hw (hz rfl), hI.2.1, hI.2.2⟩ hP hD hS (lv_sub hl [0] rfl)
      · exact absurd rfl c1
    · have hd := hd rfl
      refine lv_aload_n hx hb dX4_joinAll_103 rfl (lv_at hl 0 rfl) ?_
      refine va_get (D := (dC, dI)) (ci := 4) (v := .int 1) (C := RX4) (T := TX4) (N := 15) hx hb hts (fun w h => woX4_joinAll w (inX4 w h)) hown hK hP 0 rfl rfl 12 (by decide) (hts _ (woX4_joinAll _ wd_505)) (fun _ h9 => h9) rfl dX4_joinAll_104 ?_
      refine lv_if_eq (tgt := 277) hx hb dX4_joinAll_107 (by decide) (fun c1 => ?_) (fun c1 => ?_)
      · exact absurd c1 (by decide)
      · refine lv_aload_n hx hb dX4_joinAll_110 rfl (lv_at hl 0 rfl) ?_
        refine lv_iconst (v := 0) hx hb dX4_joinAll_111 (by decide) ?_
        refine va_put (D := (dC, dI)) (ci := 4) (v := .int 0) (ty := .boolean) (C := RX4) (T := TX4) (N := 15) hx hb hts (fun w h => woX4_joinAll w (inX4 w h)) tyX4 tyX4_ok nmX4 hown hK hP hD hS 0 rfl rfl 12 (by decide) (hts _ (woX4_joinAll _ wd_505)) (fun _ h9 => h9) rfl (by decide +kernel) rfl rfl (Nat.le_of_ble_eq_true rfl) dX4_joinAll_112 (fun H locs hP hD hS => ?_)
        have hP : va_P (dC, dI) vwCl [(mA 0, .inr (4, [.int th, .ref (mA 1), .ref (mA 2), .ref (mA 3), .int (nI (mx_n T)), .int (nI (mx_m F)), .ref (mA 4), .ref (mA 5), .ref (mA 6), .ref (mA 7), .ref (mA 8), .ref (mA 9), .int 0, .ref (mA 10), .ref (mA 11)])), (mA 1, .inl (cZ, 16, .inl isb)), (mA 3, .inl (cI, 16, .inl pls)), (mA 4, .inl (cI, 60, .inl msg)), (mA 5, .inl (cI, 180, .inl at_)), (mA 6, .inl (cI, 40, .inl on)), (mA 7, .inl (cI, 40, .inl tw)), (mA 8, .inl (cZ, 40, .inl sa)), (mA 9, .inl (cI, 60, .inl le))] H := hP
        have hD : va_D A [(mA 0, .inr (4, [.int th, .ref (mA 1), .ref (mA 2), .ref (mA 3), .int (nI (mx_n T)), .int (nI (mx_m F)), .ref (mA 4), .ref (mA 5), .ref (mA 6), .ref (mA 7), .ref (mA 8), .ref (mA 9), .int 0, .ref (mA 10), .ref (mA 11)])), (mA 1, .inl (cZ, 16, .inl isb)), (mA 3, .inl (cI, 16, .inl pls)), (mA 4, .inl (cI, 60, .inl msg)), (mA 5, .inl (cI, 180, .inl at_)), (mA 6, .inl (cI, 40, .inl on)), (mA 7, .inl (cI, 40, .inl tw)), (mA 8, .inl (cZ, 40, .inl sa)), (mA 9, .inl (cI, 60, .inl le))] := hD
        refine lv_iconst (v := 0) hx hb dX4_joinAll_115 (by decide) ?_
        refine lv_istore (lv' := [(5, .int 0), (0, .ref (mA 0))]) hx hb dX4_joinAll_116 hl (by decide) rfl (fun ls hl => ?_)
        refine ja_4 hx hb hown hts hK hw hpf hn hmt hmf hA hml (fun nn4 le4 jo4 H locs ls hI4 hP hD hS hl => ?_) (mx_n T) 0 nn le 0 _ _ _ (by omega) (show pa_I T E (mx_rt0 T nn) (fun u v => v < u ∧ u < 0) nn le 0 from ⟨hI.1, hI.2.1, hI.2.2, Or.inl rfl, fun z => absurd z (by decide), Nat.le_refl _, fun _ u v q => absurd q.2 (Nat.not_lt_zero u)⟩) hP hD hS (lv_sub hl [1, 0] rfl)
        refine lv_goto (tgt := 103) hx hb dX4_joinAll_274 (by decide) ?_
        refine ih nn4 le4 jo4 _ _ _ (fun q => by have := hI4.2.2.2.2.1 q; omega) ⟨hI4.1, hI4.2.1, hI4.2.2.1⟩ hI4.2.2.2.1 (fun q x y h1 h2 => hI4.2.2.2.2.2.2 q x y ⟨h1, h2⟩) hP hD hS (lv_sub hl [0] rfl)

set_option maxHeartbeats 4000000 in
set_option maxRecDepth 100000 in
theorem ja_2 {p : Program} {l : Launch} {e : Env} {s : State} {m : MethodId} {args : Array Value} {below : List Frame} {meth : Method} {c : Code} {Q : State → Prop} (hx : p.tables.exec = Jvm.exec) (hb : c.code = cX4_joinAll) (hown : s.vm.findClass RX4 = some m.cls) (hts : ∀ w ∈ wsX4_joinAll, w.before args s = true) {dC : Nat → ClassId} {dI : Nat → Nat → Nat} {cI cJ cZ : ClassId} (hK : va_K (dC, dI) vwCl [(cI, .int), (cJ, .long), (cZ, .boolean)] s) {T : mx_T} {F : mx_F} {mA : Nat → Nat} {th : Int32} {isb : Nat → Int32} {pls : Nat → Int32} {msg : Nat → Int32} {at_ : Nat → Int32} {on : Nat → Int32} {tw : Nat → Int32} {sa : Nat → Int32} {wh : Int64} {a : Nat} {b : Nat} (hw : mx_wf T) (hpf : mx_pf T) (hn : mx_n T ≤ 60) (hmt : md_T T isb pls msg at_) (hmf : mx_m F ≤ 40 ∧ ∀ f, f < mx_m F → on f = nI (mx_lf F f) ∧ tw f = nI (mx_rt F f) ∧ mx_lf F f < mx_n T ∧ mx_rt F f < mx_n T ∧ sa f = (if mx_sm F f = true then 1 else 0)) {A : Nat → Prop} {H0 : Heap} (hA : ∀ q : Nat, H0.size ≤ q → A q) (hml : c.maxLocals = 8) (kk : ∀ (nn : Nat → Nat) (le : Nat → Int32) (jo : Int32) (H : Heap) (locs : List Loc) (ls : Array Slot), (ja_I T (ja_E T F (jb wh) a b (mx_m F)) nn le) → va_P (dC, dI) vwCl [(mA 0, .inr (4, [.int th, .ref (mA 1), .ref (mA 2), .ref (mA 3), .int (nI (mx_n T)), .int (nI (mx_m F)), .ref (mA 4), .ref (mA 5), .ref (mA 6), .ref (mA 7), .ref (mA 8), .ref (mA 9), .int jo, .ref (mA 10), .ref (mA 11)])), (mA 1, .inl (cZ, 16, .inl isb)), (mA 3, .inl (cI, 16, .inl pls)), (mA 4, .inl (cI, 60, .inl msg)), (mA 5, .inl (cI, 180, .inl at_)), (mA 6, .inl (cI, 40, .inl on)), (mA 7, .inl (cI, 40, .inl tw)), (mA 8, .inl (cZ, 40, .inl sa)), (mA 9, .inl (cI, 60, .inl le))] H → va_D A [(mA 0, .inr (4, [.int th, .ref (mA 1), .ref (mA 2), .ref (mA 3), .int (nI (mx_n T)), .int (nI (mx_m F)), .ref (mA 4), .ref (mA 5), .ref (mA 6), .ref (mA 7), .ref (mA 8), .ref (mA 9), .int jo, .ref (mA 10), .ref (mA 11)])), (mA 1, .inl (cZ, 16, .inl isb)), (mA 3, .inl (cI, 16, .inl pls)), (mA 4, .inl (cI, 60, .inl msg)), (mA 5, .inl (cI, 180, .inl at_)), (mA 6, .inl (cI, 40, .inl on)), (mA 7, .inl (cI, 40, .inl tw)), (mA 8, .inl (cZ, 40, .inl sa)), (mA 9, .inl (cI, 60, .inl le))] → va_S A H0 H locs → lv_has ls 8 [(0, .ref (mA 0))] → W p l e ({ frames := 1, cells := 0, slots := 0, locals := 26 }) s m args below meth c H locs 0 0 Q (F0 m 98 ls [])) : ∀ (d : Nat) (f : Nat) (nn : Nat → Nat) (le : Nat → Int32) (jo : Int32) (H : Heap) (locs : List Loc) (ls : Array Slot), (f + d = mx_m F) → (ja_I T (ja_E T F (jb wh) a b f) nn le) → va_P (dC, dI) vwCl [(mA 0, .inr (4, [.int th, .ref (mA 1), .ref (mA 2), .ref (mA 3), .int (nI (mx_n T)), .int (nI (mx_m F)), .ref (mA 4), .ref (mA 5), .ref (mA 6), .ref (mA 7), .ref (mA 8), .ref (mA 9), .int jo, .ref (mA 10), .ref (mA 11)])), (mA 1, .inl (cZ, 16, .inl isb)), (mA 3, .inl (cI, 16, .inl pls)), (mA 4, .inl (cI, 60, .inl msg)), (mA 5, .inl (cI, 180, .inl at_)), (mA 6, .inl (cI, 40, .inl on)), (mA 7, .inl (cI, 40, .inl tw)), (mA 8, .inl (cZ, 40, .inl sa)), (mA 9, .inl (cI, 60, .inl le))] H → va_D A [(mA 0, .inr (4, [.int th, .ref (mA 1), .ref (mA 2), .ref (mA 3), .int (nI (mx_n T)), .int (nI (mx_m F)), .ref (mA 4), .ref (mA 5), .ref (mA 6), .ref (mA 7), .ref (mA 8), .ref (mA 9), .int jo, .ref (mA 10), .ref (mA 11)])), (mA 1, .inl (cZ, 16, .inl isb)), (mA 3, .inl (cI, 16, .inl pls)), (mA 4, .inl (cI, 60, .inl msg)), (mA 5, .inl (cI, 180, .inl at_)), (mA 6, .inl (cI, 40, .inl on)), (mA 7, .inl (cI, 40, .inl tw)), (mA 8, .inl (cZ, 40, .inl sa)), (mA 9, .inl (cI, 60, .inl le))] → va_S A H0 H locs → lv_has ls 8 [(0, .ref (mA 0)), (1, .long wh), (5, .int (nI f))] → W p l e ({ frames := 1, cells := 0, slots := 0, locals := 26 }) s m args below meth c H locs 0 0 Q (F0 m 44 ls []) := by
  intro d
  induction d with
  | zero =>
    intro f nn le jo H locs ls hd hI hP hD hS hl
    refine lv_iload hx hb dX4_joinAll_44 (lv_at hl 2 rfl) ?_
    refine lv_aload_n hx hb dX4_joinAll_46 rfl (lv_at hl 0 rfl) ?_
    refine va_get (D := (dC, dI)) (ci := 4) (v := .int (nI (mx_m F))) (C := RX4) (T := TX4) (N := 15) hx hb hts (fun w h => woX4_joinAll w (inX4 w h)) hown hK hP 0 rfl rfl 5 (by decide) (hts _ (woX4_joinAll _ wd_498)) (fun _ h9 => h9) rfl dX4_joinAll_47 ?_
    refine lv_icmp_ge (tgt := 98) hx hb dX4_joinAll_50 (by decide) (fun c1 => ?_) (fun c1 => ?_)
    · have e : f = mx_m F := by omega
      rw [e] at hI
      refine kk nn le jo _ _ _ hI hP hD hS (lv_sub hl [0] rfl)
    · exact absurd (nI_le (a := mx_m F) (b := f) (by have := hmf.1; omega) (by omega)) c1
  | succ d ih =>
    intro f nn le jo H locs ls hd hI hP hD hS hl
    have hfm : f < mx_m F := by omega
    have hm := hmf.1
    obtain ⟨e1, e2, e3, e4, e5⟩ := hmf.2 f hfm
    refine lv_iload hx hb dX4_joinAll_44 (lv_at hl 2 rfl) ?_
    refine lv_aload_n hx hb dX4_joinAll_46 rfl (lv_at hl 0 rfl) ?_
    refine va_get (D := (dC, dI)) (ci := 4) (v := .int (nI (mx_m F))) (C := RX4) (T := TX4) (N := 15) hx hb hts (fun w h => woX4_joinAll w (inX4 w h)) hown hK hP 0 rfl rfl 5 (by decide) (hts _ (woX4_joinAll _ wd_498)) (fun _ h9 => h9) rfl dX4_joinAll_47 ?_
    refine lv_icmp_ge (tgt := 98) hx hb dX4_joinAll_50 (by decide) (fun c1 => ?_) (fun c1 => ?_)
    · exact absurd c1 (nI_ge hfm (by omega))
    · refine lv_lload_n hx hb dX4_joinAll_53 rfl (lv_at hl 1 rfl) ?_
      refine lv_iload hx hb dX4_joinAll_54 (lv_at hl 2 rfl) ?_
      refine lv_lshr (v := wh >>> ((nI f).toInt64 &&& 63)) hx hb dX4_joinAll_56 rfl ?_
      refine lv_lconst (v := 1) hx hb dX4_joinAll_57 (by decide) ?_
      refine lv_land hx hb dX4_joinAll_58 ?_
      refine lv_lconst (v := 1) hx hb dX4_joinAll_59 (by decide) ?_
      refine W.lcmp hx hb dX4_joinAll_60 ?_
      refine lv_if_ne (tgt := 92) hx hb dX4_joinAll_61 (by decide) (fun c2 => ?_) (fun c2 => ?_)
      · have hb0 : jb wh f = false := ts_nt (fun z => c2 ((lg_cmp_eq _ _).mpr ((tst_1 (by omega)).mpr z)))
        obtain ⟨y_1, ey_1⟩ : ∃ y9 : Int32, y9 = (nI f) + 1 := ⟨_, rfl⟩
        refine lv_iinc (v := y_1) (lv' := [(5, .int y_1), (0, .ref (mA 0)), (1, .long wh)]) hx hb dX4_joinAll_92 hl (k := 2) rfl (by rw [ey_1]; rfl) (by decide) rfl (fun ls hl => ?_)
        refine lv_goto (tgt := 44) hx hb dX4_joinAll_95 (by decide) ?_
        rw [ey_1, nI_1] at hl
        refine ih (f + 1) nn le jo _ _ _ (by omega) (ja_to hI (fun x y => or_congr_left (mx_E_n (Or.inr hb0) x y))) hP hD hS (lv_sub hl [1, 2, 0] rfl)
      · have hb1 : jb wh f = true := (tst_1 (by omega)).mp ((lg_cmp_eq _ _).mp c2)
        refine lv_aload_n hx hb dX4_joinAll_64 rfl (lv_at hl 0 rfl) ?_
        refine va_get (D := (dC, dI)) (ci := 4) (v := .ref (mA 8)) (C := RX4) (T := TX4) (N := 15) hx hb hts (fun w h => woX4_joinAll w (inX4 w h)) hown hK hP 0 rfl rfl 10 (by decide) (hts _ (woX4_joinAll _ wd_503)) (fun _ h9 => h9) rfl dX4_joinAll_65 ?_
        refine lv_iload hx hb dX4_joinAll_68 (lv_at hl 2 rfl) ?_
        refine va_zald hx hb hK hP 7 2 rfl rfl (vp_in_nI (by omega) (by omega)) dX4_joinAll_70 ?_
        rw [show (nI f).toNatClampNeg = f from nI_clamp (by omega)]
        rw [e5]
        refine lv_if_eq (tgt := 92) hx hb dX4_joinAll_71 (by decide) (fun c3 => ?_) (fun c3 => ?_)
        · have hs : mx_sm F f = false := ts_nt (fun z => by rw [if_pos z] at c3; exact absurd c3 (by decide))
          obtain ⟨y_2, ey_2⟩ : ∃ y9 : Int32, y9 = (nI f) + 1 := ⟨_, rfl⟩
          refine lv_iinc (v := y_2) (lv' := [(5, .int y_2), (0, .ref (mA 0)), (1, .long wh)]) hx hb dX4_joinAll_92 hl (k := 2) rfl (by rw [ey_2]; rfl) (by decide) rfl (fun ls hl => ?_)
          refine lv_goto (tgt := 44) hx hb dX4_joinAll_95 (by decide) ?_
          rw [ey_2, nI_1] at hl
          refine ih (f + 1) nn le jo _ _ _ (by omega) (ja_to hI (fun x y => or_congr_left (mx_E_n (Or.inl hs) x y))) hP hD hS (lv_sub hl [1, 2, 0] rfl)
        · have hs : mx_sm F f = true := Classical.byContradiction fun z => c3 (if_neg z)
          refine lv_aload_n hx hb dX4_joinAll_74 rfl (lv_at hl 0 rfl) ?_
          refine lv_aload_n hx hb dX4_joinAll_75 rfl (lv_at hl 0 rfl) ?_
          refine va_get (D := (dC, dI)) (ci := 4) (v := .ref (mA 6)) (C := RX4) (T := TX4) (N := 15) hx hb hts (fun w h => woX4_joinAll w (inX4 w h)) hown hK hP 0 rfl rfl 8 (by decide) (hts _ (woX4_joinAll _ wd_501)) (fun _ h9 => h9) rfl dX4_joinAll_76 ?_
          refine lv_iload hx hb dX4_joinAll_79 (lv_at hl 2 rfl) ?_
          refine va_iald hx hb hK hP 5 0 rfl rfl (vp_in_nI (by omega) (by omega)) dX4_joinAll_81 ?_
          rw [show (nI f).toNatClampNeg = f from nI_clamp (by omega)]
          rw [e1]
          refine lv_aload_n hx hb dX4_joinAll_82 rfl (lv_at hl 0 rfl) ?_
          refine va_get (D := (dC, dI)) (ci := 4) (v := .ref (mA 7)) (C := RX4) (T := TX4) (N := 15) hx hb hts (fun w h => woX4_joinAll w (inX4 w h)) hown hK hP 0 rfl rfl 9 (by decide) (hts _ (woX4_joinAll _ wd_502)) (fun _ h9 => h9) rfl dX4_joinAll_83 ?_
          refine lv_iload hx hb dX4_joinAll_86 (lv_at hl 2 rfl) ?_
          refine va_iald hx hb hK hP 6 0 rfl rfl (vp_in_nI (by omega) (by omega)) dX4_joinAll_88 ?_
          rw [show (nI f).toNatClampNeg = f from nI_clamp (by omega)]
          rw [e2]
          have hPc := hP.sub (ws' := [(mA 0, .inr (4, [.int th, .ref (mA 1), .ref (mA 2), .ref (mA 3), .int (nI (mx_n T)), .int (nI (mx_m F)), .ref (mA 4), .ref (mA 5), .ref (mA 6), .ref (mA 7), .ref (mA 8), .ref (mA 9), .int jo, .ref (mA 10), .ref (mA 11)])), (mA 9, .inl (cI, 60, .inl le))]) [0, 8] rfl
          have hDc := hD.sub (ws' := [(mA 0, .inr (4, [.int th, .ref (mA 1), .ref (mA 2), .ref (mA 3), .int (nI (mx_n T)), .int (nI (mx_m F)), .ref (mA 4), .ref (mA 5), .ref (mA 6), .ref (mA 7), .ref (mA 8), .ref (mA 9), .int jo, .ref (mA 10), .ref (mA 11)])), (mA 9, .inl (cI, 60, .inl le))]) [0, 8] (by decide) rfl
          have hFc := va_free (wc := [(mA 0, .inr (4, [.int th, .ref (mA 1), .ref (mA 2), .ref (mA 3), .int (nI (mx_n T)), .int (nI (mx_m F)), .ref (mA 4), .ref (mA 5), .ref (mA 6), .ref (mA 7), .ref (mA 8), .ref (mA 9), .int jo, .ref (mA 10), .ref (mA 11)])), (mA 9, .inl (cI, 60, .inl le))]) hD hS hA [0, 8] rfl
          refine va_callv (va_runV (As := [.int (nI (mx_lf F f)), .int (nI (mx_rt F f))]) (rest := []) ⟨hx, hb, hml, hown, hts⟩ (m_join l dC dI cI cJ cZ T F nn mA th jo le (mx_lf F f) (mx_rt F f) H.size hn hI.1 e3 e4) (cwV 2 hts (w0_goodV woX4_joinAll wd_590 wd_587 wd_589 ws_17 wd_5) rfl rfl rfl (by decide +kernel) ⟨Nat.le_of_ble_eq_true rfl, Nat.le_of_ble_eq_true rfl⟩) ⟨fun a U g mk q => by obtain ⟨q0, q1, qP, qK, qD⟩ := q; exact ⟨q0, q1, qP, va_K.moved (u := U) (U := U.calling g mk a) (Vm.Alike.refl U.vm) qK, qD⟩, va_recv hK hP (ci := 4) (q0 := 0) rfl rfl, fun U hU hW => ⟨rfl, by rw [hU], by rw [hU]; exact hPc, va_K.moved hW.alike hK, hDc.weaken (fun _ _ _ _ => trivial)⟩⟩ rfl rfl hl.1 rfl (lv_room (Nat.le_of_ble_eq_true rfl)) dX4_joinAll_89 ⟨Nat.zero_le _, Nat.zero_le _⟩) hS (fun q _ h => hFc q h) hFc (fun u t8 H1 locs ht8 hvm hu hB hz1 hk1 hS => ?_)
          obtain ⟨le2_3, jo2_3⟩ := u
          obtain ⟨hP1, hK1, hD1⟩ := hB
          rw [ht8] at hP1
          try dsimp only at hu
          obtain ⟨hP, hD⟩ := va_join (wr := [(mA 1, .inl (cZ, 16, .inl isb)), (mA 3, .inl (cI, 16, .inl pls)), (mA 4, .inl (cI, 60, .inl msg)), (mA 5, .inl (cI, 180, .inl at_)), (mA 6, .inl (cI, 40, .inl on)), (mA 7, .inl (cI, 40, .inl tw)), (mA 8, .inl (cZ, 40, .inl sa))]) (w1 := [(mA 0, .inr (4, [.int th, .ref (mA 1), .ref (mA 2), .ref (mA 3), .int (nI (mx_n T)), .int (nI (mx_m F)), .ref (mA 4), .ref (mA 5), .ref (mA 6), .ref (mA 7), .ref (mA 8), .ref (mA 9), .int jo2_3, .ref (mA 10), .ref (mA 11)])), (mA 9, .inl (cI, 60, .inl le2_3))]) hP hD [0, 8] [1, 2, 3, 4, 5, 6, 7] rfl rfl (by decide) (by decide) hk1 hFc hP1 hD1
          have hP := hP.sub (ws' := [(mA 0, .inr (4, [.int th, .ref (mA 1), .ref (mA 2), .ref (mA 3), .int (nI (mx_n T)), .int (nI (mx_m F)), .ref (mA 4), .ref (mA 5), .ref (mA 6), .ref (mA 7), .ref (mA 8), .ref (mA 9), .int jo2_3, .ref (mA 10), .ref (mA 11)])), (mA 1, .inl (cZ, 16, .inl isb)), (mA 3, .inl (cI, 16, .inl pls)), (mA 4, .inl (cI, 60, .inl msg)), (mA 5, .inl (cI, 180, .inl at_)), (mA 6, .inl (cI, 40, .inl on)), (mA 7, .inl (cI, 40, .inl tw)), (mA 8, .inl (cZ, 40, .inl sa)), (mA 9, .inl (cI, 60, .inl le2_3))]) [7, 0, 1, 2, 3, 4, 5, 6, 8] rfl
          have hD := hD.sub (ws' := [(mA 0, .inr (4, [.int th, .ref (mA 1), .ref (mA 2), .ref (mA 3), .int (nI (mx_n T)), .int (nI (mx_m F)), .ref (mA 4), .ref (mA 5), .ref (mA 6), .ref (mA 7), .ref (mA 8), .ref (mA 9), .int jo2_3, .ref (mA 10), .ref (mA 11)])), (mA 1, .inl (cZ, 16, .inl isb)), (mA 3, .inl (cI, 16, .inl pls)), (mA 4, .inl (cI, 60, .inl msg)), (mA 5, .inl (cI, 180, .inl at_)), (mA 6, .inl (cI, 40, .inl on)), (mA 7, .inl (cI, 40, .inl tw)), (mA 8, .inl (cZ, 40, .inl sa)), (mA 9, .inl (cI, 60, .inl le2_3))]) [7, 0, 1, 2, 3, 4, 5, 6, 8] (by decide) rfl
          generalize H1 = H at hP hS ⊢
          obtain ⟨nn2, j1⟩ := ja_join hI e3 e4 hu
          obtain ⟨y_4, ey_4⟩ : ∃ y9 : Int32, y9 = (nI f) + 1 := ⟨_, rfl⟩
          refine lv_iinc (v := y_4) (lv' := [(5, .int y_4), (0, .ref (mA 0)), (1, .long wh)]) hx hb dX4_joinAll_92 hl (k := 2) rfl (by rw [ey_4]; rfl) (by decide) rfl (fun ls hl => ?_)
          refine lv_goto (tgt := 44) hx hb dX4_joinAll_95 (by decide) ?_
          rw [ey_4, nI_1] at hl
          refine ih (f + 1) nn2 le2_3 jo2_3 _ _ _ (by omega) (ja_to j1 (fun x y => ?_)) hP hD hS (lv_sub hl [1, 2, 0] rfl)
          show (mx_E F (jb wh) f x y ∨ _) ∨ _ ↔ mx_E F (jb wh) (f + 1) x y ∨ _
          rw [← mx_E_s hs hb1 x y]
          constructor
          · rintro ((q | q) | q); · exact Or.inl (Or.inl q)
            · exact Or.inr q
            · exact Or.inl (Or.inr q)
          · rintro ((q | q) | q); · exact Or.inl (Or.inl q)
            · exact Or.inr q
            · exact Or.inl (Or.inr q)

set_option maxHeartbeats 4000000 in
set_option maxRecDepth 100000 in
theorem ja_1 {p : Program} {l : Launch} {e : Env} {s : State} {m : MethodId} {args : Array Value} {below : List Frame} {meth : Method} {c : Code} {Q : State → Prop} (hx : p.tables.exec = Jvm.exec) (hb : c.code = cX4_joinAll) (hown : s.vm.findClass RX4 = some m.cls) (hts : ∀ w ∈ wsX4_joinAll, w.before args s = true) {dC : Nat → ClassId} {dI : Nat → Nat → Nat} {cI cJ cZ : ClassId} (hK : va_K (dC, dI) vwCl [(cI, .int), (cJ, .long), (cZ, .boolean)] s) {T : mx_T} {F : mx_F} {mA : Nat → Nat} {th : Int32} {isb : Nat → Int32} {pls : Nat → Int32} {msg : Nat → Int32} {at_ : Nat → Int32} {on : Nat → Int32} {tw : Nat → Int32} {sa : Nat → Int32} {wh : Int64} {a : Nat} {b : Nat} {jo : Int32} (hw : mx_wf T) (hpf : mx_pf T) (hn : mx_n T ≤ 60) (hmt : md_T T isb pls msg at_) (hmf : mx_m F ≤ 40 ∧ ∀ f, f < mx_m F → on f = nI (mx_lf F f) ∧ tw f = nI (mx_rt F f) ∧ mx_lf F f < mx_n T ∧ mx_rt F f < mx_n T ∧ sa f = (if mx_sm F f = true then 1 else 0)) {A : Nat → Prop} {H0 : Heap} (hA : ∀ q : Nat, H0.size ≤ q → A q) (hml : c.maxLocals = 8) (kk : ∀ (le : Nat → Int32) (H : Heap) (locs : List Loc) (ls : Array Slot), (∀ u, u < mx_n T → le u = nI u) → va_P (dC, dI) vwCl [(mA 0, .inr (4, [.int th, .ref (mA 1), .ref (mA 2), .ref (mA 3), .int (nI (mx_n T)), .int (nI (mx_m F)), .ref (mA 4), .ref (mA 5), .ref (mA 6), .ref (mA 7), .ref (mA 8), .ref (mA 9), .int jo, .ref (mA 10), .ref (mA 11)])), (mA 1, .inl (cZ, 16, .inl isb)), (mA 3, .inl (cI, 16, .inl pls)), (mA 4, .inl (cI, 60, .inl msg)), (mA 5, .inl (cI, 180, .inl at_)), (mA 6, .inl (cI, 40, .inl on)), (mA 7, .inl (cI, 40, .inl tw)), (mA 8, .inl (cZ, 40, .inl sa)), (mA 9, .inl (cI, 60, .inl le))] H → va_D A [(mA 0, .inr (4, [.int th, .ref (mA 1), .ref (mA 2), .ref (mA 3), .int (nI (mx_n T)), .int (nI (mx_m F)), .ref (mA 4), .ref (mA 5), .ref (mA 6), .ref (mA 7), .ref (mA 8), .ref (mA 9), .int jo, .ref (mA 10), .ref (mA 11)])), (mA 1, .inl (cZ, 16, .inl isb)), (mA 3, .inl (cI, 16, .inl pls)), (mA 4, .inl (cI, 60, .inl msg)), (mA 5, .inl (cI, 180, .inl at_)), (mA 6, .inl (cI, 40, .inl on)), (mA 7, .inl (cI, 40, .inl tw)), (mA 8, .inl (cZ, 40, .inl sa)), (mA 9, .inl (cI, 60, .inl le))] → va_S A H0 H locs → lv_has ls 8 [(0, .ref (mA 0)), (1, .long wh), (3, .int (nI a)), (4, .int (nI b))] → W p l e ({ frames := 1, cells := 0, slots := 0, locals := 26 }) s m args below meth c H locs 0 0 Q (F0 m 27 ls [])) : ∀ (d : Nat) (t : Nat) (le : Nat → Int32) (H : Heap) (locs : List Loc) (ls : Array Slot), (t + d = mx_n T) → (∀ u, u < t → le u = nI u) → va_P (dC, dI) vwCl [(mA 0, .inr (4, [.int th, .ref (mA 1), .ref (mA 2), .ref (mA 3), .int (nI (mx_n T)), .int (nI (mx_m F)), .ref (mA 4), .ref (mA 5), .ref (mA 6), .ref (mA 7), .ref (mA 8), .ref (mA 9), .int jo, .ref (mA 10), .ref (mA 11)])), (mA 1, .inl (cZ, 16, .inl isb)), (mA 3, .inl (cI, 16, .inl pls)), (mA 4, .inl (cI, 60, .inl msg)), (mA 5, .inl (cI, 180, .inl at_)), (mA 6, .inl (cI, 40, .inl on)), (mA 7, .inl (cI, 40, .inl tw)), (mA 8, .inl (cZ, 40, .inl sa)), (mA 9, .inl (cI, 60, .inl le))] H → va_D A [(mA 0, .inr (4, [.int th, .ref (mA 1), .ref (mA 2), .ref (mA 3), .int (nI (mx_n T)), .int (nI (mx_m F)), .ref (mA 4), .ref (mA 5), .ref (mA 6), .ref (mA 7), .ref (mA 8), .ref (mA 9), .int jo, .ref (mA 10), .ref (mA 11)])), (mA 1, .inl (cZ, 16, .inl isb)), (mA 3, .inl (cI, 16, .inl pls)), (mA 4, .inl (cI, 60, .inl msg)), (mA 5, .inl (cI, 180, .inl at_)), (mA 6, .inl (cI, 40, .inl on)), (mA 7, .inl (cI, 40, .inl tw)), (mA 8, .inl (cZ, 40, .inl sa)), (mA 9, .inl (cI, 60, .inl le))] → va_S A H0 H locs → lv_has ls 8 [(0, .ref (mA 0)), (1, .long wh), (3, .int (nI a)), (4, .int (nI b)), (5, .int (nI t))] → W p l e ({ frames := 1, cells := 0, slots := 0, locals := 26 }) s m args below meth c H locs 0 0 Q (F0 m 3 ls []) := by
  intro d
  induction d with
  | zero =>
    intro t le H locs ls hd hI hP hD hS hl
    refine lv_iload hx hb dX4_joinAll_3 (lv_at hl 4 rfl) ?_
    refine lv_aload_n hx hb dX4_joinAll_5 rfl (lv_at hl 0 rfl) ?_
    refine va_get (D := (dC, dI)) (ci := 4) (v := .int (nI (mx_n T))) (C := RX4) (T := TX4) (N := 15) hx hb hts (fun w h => woX4_joinAll w (inX4 w h)) hown hK hP 0 rfl rfl 4 (by decide) (hts _ (woX4_joinAll _ wd_497)) (fun _ h9 => h9) rfl dX4_joinAll_6 ?_
    refine lv_icmp_ge (tgt := 27) hx hb dX4_joinAll_9 (by decide) (fun c1 => ?_) (fun c1 => ?_)
    · have e : t = mx_n T := by omega
      rw [e] at hI
      refine kk le _ _ _ hI hP hD hS (lv_sub hl [0, 1, 2, 3] rfl)
    · exact absurd (nI_le (a := mx_n T) (b := t) (by omega) (by omega)) c1
  | succ d ih =>
    intro t le H locs ls hd hI hP hD hS hl
    have ht : t < mx_n T := by omega
    refine lv_iload hx hb dX4_joinAll_3 (lv_at hl 4 rfl) ?_
    refine lv_aload_n hx hb dX4_joinAll_5 rfl (lv_at hl 0 rfl) ?_
    refine va_get (D := (dC, dI)) (ci := 4) (v := .int (nI (mx_n T))) (C := RX4) (T := TX4) (N := 15) hx hb hts (fun w h => woX4_joinAll w (inX4 w h)) hown hK hP 0 rfl rfl 4 (by decide) (hts _ (woX4_joinAll _ wd_497)) (fun _ h9 => h9) rfl dX4_joinAll_6 ?_
    refine lv_icmp_ge (tgt := 27) hx hb dX4_joinAll_9 (by decide) (fun c1 => ?_) (fun c1 => ?_)
    · exact absurd c1 (nI_ge ht (by omega))
    · refine lv_aload_n hx hb dX4_joinAll_12 rfl (lv_at hl 0 rfl) ?_
      refine va_get (D := (dC, dI)) (ci := 4) (v := .ref (mA 9)) (C := RX4) (T := TX4) (N := 15) hx hb hts (fun w h => woX4_joinAll w (inX4 w h)) hown hK hP 0 rfl rfl 11 (by decide) (hts _ (woX4_joinAll _ wd_504)) (fun _ h9 => h9) rfl dX4_joinAll_13 ?_
      refine lv_iload hx hb dX4_joinAll_16 (lv_at hl 4 rfl) ?_
      refine lv_iload hx hb dX4_joinAll_18 (lv_at hl 4 rfl) ?_
      refine va_iast hx hb hK hP hD hS 8 0 rfl rfl (vp_in_nI (by omega) (by omega)) dX4_joinAll_20 (fun H locs hP hD hS => ?_)
      rw [show (nI t).toNatClampNeg = t from nI_clamp (by omega)] at hP hD
      have hP : va_P (dC, dI) vwCl [(mA 0, .inr (4, [.int th, .ref (mA 1), .ref (mA 2), .ref (mA 3), .int (nI (mx_n T)), .int (nI (mx_m F)), .ref (mA 4), .ref (mA 5), .ref (mA 6), .ref (mA 7), .ref (mA 8), .ref (mA 9), .int jo, .ref (mA 10), .ref (mA 11)])), (mA 1, .inl (cZ, 16, .inl isb)), (mA 3, .inl (cI, 16, .inl pls)), (mA 4, .inl (cI, 60, .inl msg)), (mA 5, .inl (cI, 180, .inl at_)), (mA 6, .inl (cI, 40, .inl on)), (mA 7, .inl (cI, 40, .inl tw)), (mA 8, .inl (cZ, 40, .inl sa)), (mA 9, .inl (cI, 60, .inl (upd le t (nI t))))] H := hP
      have hD : va_D A [(mA 0, .inr (4, [.int th, .ref (mA 1), .ref (mA 2), .ref (mA 3), .int (nI (mx_n T)), .int (nI (mx_m F)), .ref (mA 4), .ref (mA 5), .ref (mA 6), .ref (mA 7), .ref (mA 8), .ref (mA 9), .int jo, .ref (mA 10), .ref (mA 11)])), (mA 1, .inl (cZ, 16, .inl isb)), (mA 3, .inl (cI, 16, .inl pls)), (mA 4, .inl (cI, 60, .inl msg)), (mA 5, .inl (cI, 180, .inl at_)), (mA 6, .inl (cI, 40, .inl on)), (mA 7, .inl (cI, 40, .inl tw)), (mA 8, .inl (cZ, 40, .inl sa)), (mA 9, .inl (cI, 60, .inl (upd le t (nI t))))] := hD
      obtain ⟨y_1, ey_1⟩ : ∃ y9 : Int32, y9 = (nI t) + 1 := ⟨_, rfl⟩
      refine lv_iinc (v := y_1) (lv' := [(5, .int y_1), (0, .ref (mA 0)), (1, .long wh), (3, .int (nI a)), (4, .int (nI b))]) hx hb dX4_joinAll_21 hl (k := 4) rfl (by rw [ey_1]; rfl) (by decide) rfl (fun ls hl => ?_)
      refine lv_goto (tgt := 3) hx hb dX4_joinAll_24 (by decide) ?_
      rw [ey_1, nI_1] at hl
      refine ih (t + 1) (upd le t (nI t)) _ _ _ (by omega) (fun u hu => ?_) hP hD hS (lv_sub hl [1, 2, 3, 4, 0] rfl)
      by_cases z : u = t
      · subst z; exact pk_us
      · rw [pk_un z]; exact hI u (by omega)

set_option maxHeartbeats 4000000 in
set_option maxRecDepth 100000 in
/-- the reference joins all -/
theorem m_joinAll (l : Launch) (dC : Nat → ClassId) (dI : Nat → Nat → Nat) (cI cJ cZ : ClassId) (T : mx_T) (F : mx_F) (mA : Nat → Nat) (th : Int32) (jo : Int32) (isb : Nat → Int32) (pls : Nat → Int32) (msg : Nat → Int32) (at_ : Nat → Int32) (on : Nat → Int32) (tw : Nat → Int32) (sa : Nat → Int32) (le : Nat → Int32) (wh : Int64) (a : Nat) (b : Nat) (sz : Nat) (hw : mx_wf T) (hpf : mx_pf T) (hn : mx_n T ≤ 60) (hmt : md_T T isb pls msg at_) (hmf : mx_m F ≤ 40 ∧ ∀ f, f < mx_m F → on f = nI (mx_lf F f) ∧ tw f = nI (mx_rt F f) ∧ mx_lf F f < mx_n T ∧ mx_rt F f < mx_n T ∧ sa f = (if mx_sm F f = true then 1 else 0)) (hab : 0 < mx_n T → a < mx_n T ∧ b < mx_n T) : Met l yX4_joinAll wsX4_joinAll ({ frames := 1, cells := 0, slots := 0, locals := 26 }) (va_Pc [.ref (mA 0), .long wh, .int (nI a), .int (nI b)] (fun U => U.heap.size = sz ∧ va_P (dC, dI) vwCl [(mA 0, .inr (4, [.int th, .ref (mA 1), .ref (mA 2), .ref (mA 3), .int (nI (mx_n T)), .int (nI (mx_m F)), .ref (mA 4), .ref (mA 5), .ref (mA 6), .ref (mA 7), .ref (mA 8), .ref (mA 9), .int jo, .ref (mA 10), .ref (mA 11)])), (mA 1, .inl (cZ, 16, .inl isb)), (mA 3, .inl (cI, 16, .inl pls)), (mA 4, .inl (cI, 60, .inl msg)), (mA 5, .inl (cI, 180, .inl at_)), (mA 6, .inl (cI, 40, .inl on)), (mA 7, .inl (cI, 40, .inl tw)), (mA 8, .inl (cZ, 40, .inl sa)), (mA 9, .inl (cI, 60, .inl le))] U.heap ∧ va_K (dC, dI) vwCl [(cI, .int), (cJ, .long), (cZ, .boolean)] U ∧ va_D (fun _ => True) [(mA 0, .inr (4, [.int th, .ref (mA 1), .ref (mA 2), .ref (mA 3), .int (nI (mx_n T)), .int (nI (mx_m F)), .ref (mA 4), .ref (mA 5), .ref (mA 6), .ref (mA 7), .ref (mA 8), .ref (mA 9), .int jo, .ref (mA 10), .ref (mA 11)])), (mA 1, .inl (cZ, 16, .inl isb)), (mA 3, .inl (cI, 16, .inl pls)), (mA 4, .inl (cI, 60, .inl msg)), (mA 5, .inl (cI, 180, .inl at_)), (mA 6, .inl (cI, 40, .inl on)), (mA 7, .inl (cI, 40, .inl tw)), (mA 8, .inl (cZ, 40, .inl sa)), (mA 9, .inl (cI, 60, .inl le))])) (va_Qv (ja_Q T F (jb wh) a b) (fun (u : (Nat → Int32) × Int32) t7 => match u with | (le2, jo2) => va_P (dC, dI) vwCl [(mA 0, .inr (4, [.int th, .ref (mA 1), .ref (mA 2), .ref (mA 3), .int (nI (mx_n T)), .int (nI (mx_m F)), .ref (mA 4), .ref (mA 5), .ref (mA 6), .ref (mA 7), .ref (mA 8), .ref (mA 9), .int jo2, .ref (mA 10), .ref (mA 11)])), (mA 1, .inl (cZ, 16, .inl isb)), (mA 3, .inl (cI, 16, .inl pls)), (mA 4, .inl (cI, 60, .inl msg)), (mA 5, .inl (cI, 180, .inl at_)), (mA 6, .inl (cI, 40, .inl on)), (mA 7, .inl (cI, 40, .inl tw)), (mA 8, .inl (cZ, 40, .inl sa)), (mA 9, .inl (cI, 60, .inl le2))] t7.heap ∧ va_K (dC, dI) vwCl [(cI, .int), (cJ, .long), (cZ, .boolean)] t7 ∧ va_D (va_A [(mA 0, .inr (4, [.int th, .ref (mA 1), .ref (mA 2), .ref (mA 3), .int (nI (mx_n T)), .int (nI (mx_m F)), .ref (mA 4), .ref (mA 5), .ref (mA 6), .ref (mA 7), .ref (mA 8), .ref (mA 9), .int jo, .ref (mA 10), .ref (mA 11)])), (mA 1, .inl (cZ, 16, .inl isb)), (mA 3, .inl (cI, 16, .inl pls)), (mA 4, .inl (cI, 60, .inl msg)), (mA 5, .inl (cI, 180, .inl at_)), (mA 6, .inl (cI, 40, .inl on)), (mA 7, .inl (cI, 40, .inl tw)), (mA 8, .inl (cZ, 40, .inl sa)), (mA 9, .inl (cI, 60, .inl le))] sz) [(mA 0, .inr (4, [.int th, .ref (mA 1), .ref (mA 2), .ref (mA 3), .int (nI (mx_n T)), .int (nI (mx_m F)), .ref (mA 4), .ref (mA 5), .ref (mA 6), .ref (mA 7), .ref (mA 8), .ref (mA 9), .int jo2, .ref (mA 10), .ref (mA 11)])), (mA 1, .inl (cZ, 16, .inl isb)), (mA 3, .inl (cI, 16, .inl pls)), (mA 4, .inl (cI, 60, .inl msg)), (mA 5, .inl (cI, 180, .inl at_)), (mA 6, .inl (cI, 40, .inl on)), (mA 7, .inl (cI, 40, .inl tw)), (mA 8, .inl (cZ, 40, .inl sa)), (mA 9, .inl (cI, 60, .inl le2))]) (va_A [(mA 0, .inr (4, [.int th, .ref (mA 1), .ref (mA 2), .ref (mA 3), .int (nI (mx_n T)), .int (nI (mx_m F)), .ref (mA 4), .ref (mA 5), .ref (mA 6), .ref (mA 7), .ref (mA 8), .ref (mA 9), .int jo, .ref (mA 10), .ref (mA 11)])), (mA 1, .inl (cZ, 16, .inl isb)), (mA 3, .inl (cI, 16, .inl pls)), (mA 4, .inl (cI, 60, .inl msg)), (mA 5, .inl (cI, 180, .inl at_)), (mA 6, .inl (cI, 40, .inl on)), (mA 7, .inl (cI, 40, .inl tw)), (mA 8, .inl (cZ, 40, .inl sa)), (mA 9, .inl (cI, 60, .inl le))] sz)) 0 0 (va_A [(mA 0, .inr (4, [.int th, .ref (mA 1), .ref (mA 2), .ref (mA 3), .int (nI (mx_n T)), .int (nI (mx_m F)), .ref (mA 4), .ref (mA 5), .ref (mA 6), .ref (mA 7), .ref (mA 8), .ref (mA 9), .int jo, .ref (mA 10), .ref (mA 11)])), (mA 1, .inl (cZ, 16, .inl isb)), (mA 3, .inl (cI, 16, .inl pls)), (mA 4, .inl (cI, 60, .inl msg)), (mA 5, .inl (cI, 180, .inl at_)), (mA 6, .inl (cI, 40, .inl on)), (mA 7, .inl (cI, 40, .inl tw)), (mA 8, .inl (cZ, 40, .inl sa)), (mA 9, .inl (cI, 60, .inl le))] sz) := by
  refine Met.ofW (cc := cX4_joinAll) (maxL := 8) (ret := none) (by decide) rfl ?_
  intro p e s m args below meth c s₁ B hml hv
  obtain ⟨rfl, hsz, hP, hK, hD0⟩ := hv
  have hx := B.exec
  have hb := B.bytes
  have hr := B.returns
  have hts := atoms_spec (ws := wsX4_joinAll) B.pre
  have hown : s.vm.findClass RX4 = some m.cls := findClass_of_methodNamed B.named
  have hlocks := B.notSynchronized
  subst hsz
  have hD := hD0.self (sz := s.heap.size)
  generalize hAe : va_A [(mA 0, .inr (4, [.int th, .ref (mA 1), .ref (mA 2), .ref (mA 3), .int (nI (mx_n T)), .int (nI (mx_m F)), .ref (mA 4), .ref (mA 5), .ref (mA 6), .ref (mA 7), .ref (mA 8), .ref (mA 9), .int jo, .ref (mA 10), .ref (mA 11)])), (mA 1, .inl (cZ, 16, .inl isb)), (mA 3, .inl (cI, 16, .inl pls)), (mA 4, .inl (cI, 60, .inl msg)), (mA 5, .inl (cI, 180, .inl at_)), (mA 6, .inl (cI, 40, .inl on)), (mA 7, .inl (cI, 40, .inl tw)), (mA 8, .inl (cZ, 40, .inl sa)), (mA 9, .inl (cI, 60, .inl le))] s.heap.size = A at hD ⊢
  have hA : ∀ q : Nat, s.heap.size ≤ q → A q := fun q h => by rw [← hAe]; exact Or.inr h
  have hS : va_S A s.heap s.heap [] := va_S.rf
  have hP : va_P (dC, dI) vwCl [(mA 0, .inr (4, [.int th, .ref (mA 1), .ref (mA 2), .ref (mA 3), .int (nI (mx_n T)), .int (nI (mx_m F)), .ref (mA 4), .ref (mA 5), .ref (mA 6), .ref (mA 7), .ref (mA 8), .ref (mA 9), .int jo, .ref (mA 10), .ref (mA 11)])), (mA 1, .inl (cZ, 16, .inl isb)), (mA 3, .inl (cI, 16, .inl pls)), (mA 4, .inl (cI, 60, .inl msg)), (mA 5, .inl (cI, 180, .inl at_)), (mA 6, .inl (cI, 40, .inl on)), (mA 7, .inl (cI, 40, .inl tw)), (mA 8, .inl (cZ, 40, .inl sa)), (mA 9, .inl (cI, 60, .inl le))] s.heap := hP
  have hl := lv_entry ([.ref (mA 0), .long wh, .int (nI a), .int (nI b)]) (n := 8) (Nat.le_of_ble_eq_true rfl)
  rw [lg_entry_eq]
  generalize (lg_sl ([.ref (mA 0), .long wh, .int (nI a), .int (nI b)]) ++ List.replicate (8 - (lg_sl ([.ref (mA 0), .long wh, .int (nI a), .int (nI b)])).length) Slot.unset).toArray = ls at hl ⊢
  have hl : lv_has ls 8 [(0, .ref (mA 0)), (1, .long wh), (3, .int (nI a)), (4, .int (nI b))] := hl
  refine lv_iconst (v := 0) hx hb dX4_joinAll_0 (by decide) ?_
  refine lv_istore (lv' := [(5, .int 0), (0, .ref (mA 0)), (1, .long wh), (3, .int (nI a)), (4, .int (nI b))]) hx hb dX4_joinAll_1 hl (by decide) rfl (fun ls hl => ?_)
  refine ja_1 hx hb hown hts hK hw hpf hn hmt hmf hA hml (fun le1 H locs ls hI1 hP hD hS hl => ?_) (mx_n T) 0 le _ _ _ (by omega) (fun u hu => absurd hu (Nat.not_lt_zero u)) hP hD hS (lv_sub hl [1, 2, 3, 4, 0] rfl)
  have h0 := ja_0 hI1
  refine lv_aload_n hx hb dX4_joinAll_27 rfl (lv_at hl 0 rfl) ?_
  refine va_get (D := (dC, dI)) (ci := 4) (v := .int (nI (mx_n T))) (C := RX4) (T := TX4) (N := 15) hx hb hts (fun w h => woX4_joinAll w (inX4 w h)) hown hK hP 0 rfl rfl 4 (by decide) (hts _ (woX4_joinAll _ wd_497)) (fun _ h9 => h9) rfl dX4_joinAll_28 ?_
  refine lv_if_le (tgt := 41) hx hb dX4_joinAll_31 (by decide) (fun c1 => ?_) (fun c1 => ?_)
  · have hn0 : ¬ 0 < mx_n T := fun z => absurd c1 (nI_nle z (by omega))
    refine lv_iconst (v := 0) hx hb dX4_joinAll_41 (by decide) ?_
    refine lv_istore (lv' := [(5, .int 0), (0, .ref (mA 0)), (1, .long wh), (3, .int (nI a)), (4, .int (nI b))]) hx hb dX4_joinAll_42 hl (by decide) rfl (fun ls hl => ?_)
    refine ja_2 (a := a) (b := b) hx hb hown hts hK hw hpf hn hmt hmf hA hml (fun nn5 le5 jo5 H locs ls hI5 hP hD hS hl => ?_) (mx_m F) 0 (fun t => t) le1 jo _ _ _ (by omega) (ja_to h0 (fun x y => ⟨fun q => q.elim, fun q => q.elim (fun ⟨f, z, _⟩ => absurd z (Nat.not_lt_zero f)) (fun z => absurd z.1 hn0)⟩)) hP hD hS (lv_sub hl [1, 2, 0] rfl)
    refine lv_aload_n hx hb dX4_joinAll_98 rfl (lv_at hl 0 rfl) ?_
    refine lv_iconst (v := 1) hx hb dX4_joinAll_99 (by decide) ?_
    refine va_put (D := (dC, dI)) (ci := 4) (v := .int 1) (ty := .boolean) (C := RX4) (T := TX4) (N := 15) hx hb hts (fun w h => woX4_joinAll w (inX4 w h)) tyX4 tyX4_ok nmX4 hown hK hP hD hS 0 rfl rfl 12 (by decide) (hts _ (woX4_joinAll _ wd_505)) (fun _ h9 => h9) rfl (by decide +kernel) rfl rfl (Nat.le_of_ble_eq_true rfl) dX4_joinAll_100 (fun H locs hP hD hS => ?_)
    have hP : va_P (dC, dI) vwCl [(mA 0, .inr (4, [.int th, .ref (mA 1), .ref (mA 2), .ref (mA 3), .int (nI (mx_n T)), .int (nI (mx_m F)), .ref (mA 4), .ref (mA 5), .ref (mA 6), .ref (mA 7), .ref (mA 8), .ref (mA 9), .int 1, .ref (mA 10), .ref (mA 11)])), (mA 1, .inl (cZ, 16, .inl isb)), (mA 3, .inl (cI, 16, .inl pls)), (mA 4, .inl (cI, 60, .inl msg)), (mA 5, .inl (cI, 180, .inl at_)), (mA 6, .inl (cI, 40, .inl on)), (mA 7, .inl (cI, 40, .inl tw)), (mA 8, .inl (cZ, 40, .inl sa)), (mA 9, .inl (cI, 60, .inl le5))] H := hP
    have hD : va_D A [(mA 0, .inr (4, [.int th, .ref (mA 1), .ref (mA 2), .ref (mA 3), .int (nI (mx_n T)), .int (nI (mx_m F)), .ref (mA 4), .ref (mA 5), .ref (mA 6), .ref (mA 7), .ref (mA 8), .ref (mA 9), .int 1, .ref (mA 10), .ref (mA 11)])), (mA 1, .inl (cZ, 16, .inl isb)), (mA 3, .inl (cI, 16, .inl pls)), (mA 4, .inl (cI, 60, .inl msg)), (mA 5, .inl (cI, 180, .inl at_)), (mA 6, .inl (cI, 40, .inl on)), (mA 7, .inl (cI, 40, .inl tw)), (mA 8, .inl (cZ, 40, .inl sa)), (mA 9, .inl (cI, 60, .inl le5))] := hD
    refine ja_3 hx hb hown hts hK hw hpf hn hmt hmf hA hml (fun nn6 le6 jo6 H locs ls g1 g2 hP hD hS hl => ?_) (mx_n T + 1) nn5 le5 1 _ _ _ (fun _ => Nat.lt_succ_of_le (ja_rt nn5)) hI5 (Or.inr rfl) (fun z => absurd z (by decide)) hP hD hS (lv_sub hl [0] rfl)
    have hP9 := hP.sub (ws' := [(mA 0, .inr (4, [.int th, .ref (mA 1), .ref (mA 2), .ref (mA 3), .int (nI (mx_n T)), .int (nI (mx_m F)), .ref (mA 4), .ref (mA 5), .ref (mA 6), .ref (mA 7), .ref (mA 8), .ref (mA 9), .int jo6, .ref (mA 10), .ref (mA 11)])), (mA 1, .inl (cZ, 16, .inl isb)), (mA 3, .inl (cI, 16, .inl pls)), (mA 4, .inl (cI, 60, .inl msg)), (mA 5, .inl (cI, 180, .inl at_)), (mA 6, .inl (cI, 40, .inl on)), (mA 7, .inl (cI, 40, .inl tw)), (mA 8, .inl (cZ, 40, .inl sa)), (mA 9, .inl (cI, 60, .inl le6))]) [0, 1, 2, 3, 4, 5, 6, 7, 8] rfl
    have hD9 := hD.sub (ws' := [(mA 0, .inr (4, [.int th, .ref (mA 1), .ref (mA 2), .ref (mA 3), .int (nI (mx_n T)), .int (nI (mx_m F)), .ref (mA 4), .ref (mA 5), .ref (mA 6), .ref (mA 7), .ref (mA 8), .ref (mA 9), .int jo6, .ref (mA 10), .ref (mA 11)])), (mA 1, .inl (cZ, 16, .inl isb)), (mA 3, .inl (cI, 16, .inl pls)), (mA 4, .inl (cI, 60, .inl msg)), (mA 5, .inl (cI, 180, .inl at_)), (mA 6, .inl (cI, 40, .inl on)), (mA 7, .inl (cI, 40, .inl tw)), (mA 8, .inl (cZ, 40, .inl sa)), (mA 9, .inl (cI, 60, .inl le6))]) [0, 1, 2, 3, 4, 5, 6, 7, 8] (by decide) rfl
    exact W.vret hx hb hr (fun t9 ht9 hW9 => ⟨⟨(le6, jo6), rfl, ⟨nn6, g1, g2⟩, by rw [ht9]; exact hP9, va_K.moved hW9.alike hK, hD9⟩, hS.F ht9⟩) hS.2.2 dX4_joinAll_277
  · have hn0 : 0 < mx_n T := Nat.pos_of_ne_zero (fun z => c1 (by rw [z]; decide))
    obtain ⟨ha, hb0⟩ := hab hn0
    refine lv_aload_n hx hb dX4_joinAll_34 rfl (lv_at hl 0 rfl) ?_
    refine lv_iload_n hx hb dX4_joinAll_35 rfl (lv_at hl 2 rfl) ?_
    refine lv_iload hx hb dX4_joinAll_36 (lv_at hl 3 rfl) ?_
    have hPc := hP.sub (ws' := [(mA 0, .inr (4, [.int th, .ref (mA 1), .ref (mA 2), .ref (mA 3), .int (nI (mx_n T)), .int (nI (mx_m F)), .ref (mA 4), .ref (mA 5), .ref (mA 6), .ref (mA 7), .ref (mA 8), .ref (mA 9), .int jo, .ref (mA 10), .ref (mA 11)])), (mA 9, .inl (cI, 60, .inl le1))]) [0, 8] rfl
    have hDc := hD.sub (ws' := [(mA 0, .inr (4, [.int th, .ref (mA 1), .ref (mA 2), .ref (mA 3), .int (nI (mx_n T)), .int (nI (mx_m F)), .ref (mA 4), .ref (mA 5), .ref (mA 6), .ref (mA 7), .ref (mA 8), .ref (mA 9), .int jo, .ref (mA 10), .ref (mA 11)])), (mA 9, .inl (cI, 60, .inl le1))]) [0, 8] (by decide) rfl
    have hFc := va_free (wc := [(mA 0, .inr (4, [.int th, .ref (mA 1), .ref (mA 2), .ref (mA 3), .int (nI (mx_n T)), .int (nI (mx_m F)), .ref (mA 4), .ref (mA 5), .ref (mA 6), .ref (mA 7), .ref (mA 8), .ref (mA 9), .int jo, .ref (mA 10), .ref (mA 11)])), (mA 9, .inl (cI, 60, .inl le1))]) hD hS hA [0, 8] rfl
    refine va_callv (va_runV (As := [.int (nI a), .int (nI b)]) (rest := []) ⟨hx, hb, hml, hown, hts⟩ (m_join l dC dI cI cJ cZ T F (fun t => t) mA th jo le1 a b H.size hn h0.1 ha hb0) (cwV 2 hts (w0_goodV woX4_joinAll wd_590 wd_587 wd_589 ws_17 wd_5) rfl rfl rfl (by decide +kernel) ⟨Nat.le_of_ble_eq_true rfl, Nat.le_of_ble_eq_true rfl⟩) ⟨fun a U g mk q => by obtain ⟨q0, q1, qP, qK, qD⟩ := q; exact ⟨q0, q1, qP, va_K.moved (u := U) (U := U.calling g mk a) (Vm.Alike.refl U.vm) qK, qD⟩, va_recv hK hP (ci := 4) (q0 := 0) rfl rfl, fun U hU hW => ⟨rfl, by rw [hU], by rw [hU]; exact hPc, va_K.moved hW.alike hK, hDc.weaken (fun _ _ _ _ => trivial)⟩⟩ rfl rfl hl.1 rfl (lv_room (Nat.le_of_ble_eq_true rfl)) dX4_joinAll_38 ⟨Nat.zero_le _, Nat.zero_le _⟩) hS (fun q _ h => hFc q h) hFc (fun u t8 H1 locs ht8 hvm hu hB hz1 hk1 hS => ?_)
    obtain ⟨le2_1, jo2_1⟩ := u
    obtain ⟨hP1, hK1, hD1⟩ := hB
    rw [ht8] at hP1
    try dsimp only at hu
    obtain ⟨hP, hD⟩ := va_join (wr := [(mA 1, .inl (cZ, 16, .inl isb)), (mA 3, .inl (cI, 16, .inl pls)), (mA 4, .inl (cI, 60, .inl msg)), (mA 5, .inl (cI, 180, .inl at_)), (mA 6, .inl (cI, 40, .inl on)), (mA 7, .inl (cI, 40, .inl tw)), (mA 8, .inl (cZ, 40, .inl sa))]) (w1 := [(mA 0, .inr (4, [.int th, .ref (mA 1), .ref (mA 2), .ref (mA 3), .int (nI (mx_n T)), .int (nI (mx_m F)), .ref (mA 4), .ref (mA 5), .ref (mA 6), .ref (mA 7), .ref (mA 8), .ref (mA 9), .int jo2_1, .ref (mA 10), .ref (mA 11)])), (mA 9, .inl (cI, 60, .inl le2_1))]) hP hD [0, 8] [1, 2, 3, 4, 5, 6, 7] rfl rfl (by decide) (by decide) hk1 hFc hP1 hD1
    have hP := hP.sub (ws' := [(mA 0, .inr (4, [.int th, .ref (mA 1), .ref (mA 2), .ref (mA 3), .int (nI (mx_n T)), .int (nI (mx_m F)), .ref (mA 4), .ref (mA 5), .ref (mA 6), .ref (mA 7), .ref (mA 8), .ref (mA 9), .int jo2_1, .ref (mA 10), .ref (mA 11)])), (mA 1, .inl (cZ, 16, .inl isb)), (mA 3, .inl (cI, 16, .inl pls)), (mA 4, .inl (cI, 60, .inl msg)), (mA 5, .inl (cI, 180, .inl at_)), (mA 6, .inl (cI, 40, .inl on)), (mA 7, .inl (cI, 40, .inl tw)), (mA 8, .inl (cZ, 40, .inl sa)), (mA 9, .inl (cI, 60, .inl le2_1))]) [7, 0, 1, 2, 3, 4, 5, 6, 8] rfl
    have hD := hD.sub (ws' := [(mA 0, .inr (4, [.int th, .ref (mA 1), .ref (mA 2), .ref (mA 3), .int (nI (mx_n T)), .int (nI (mx_m F)), .ref (mA 4), .ref (mA 5), .ref (mA 6), .ref (mA 7), .ref (mA 8), .ref (mA 9), .int jo2_1, .ref (mA 10), .ref (mA 11)])), (mA 1, .inl (cZ, 16, .inl isb)), (mA 3, .inl (cI, 16, .inl pls)), (mA 4, .inl (cI, 60, .inl msg)), (mA 5, .inl (cI, 180, .inl at_)), (mA 6, .inl (cI, 40, .inl on)), (mA 7, .inl (cI, 40, .inl tw)), (mA 8, .inl (cZ, 40, .inl sa)), (mA 9, .inl (cI, 60, .inl le2_1))]) [7, 0, 1, 2, 3, 4, 5, 6, 8] (by decide) rfl
    generalize H1 = H at hP hS ⊢
    obtain ⟨nn2, j1⟩ := ja_join h0 ha hb0 hu
    refine lv_iconst (v := 0) hx hb dX4_joinAll_41 (by decide) ?_
    refine lv_istore (lv' := [(5, .int 0), (0, .ref (mA 0)), (1, .long wh), (3, .int (nI a)), (4, .int (nI b))]) hx hb dX4_joinAll_42 hl (by decide) rfl (fun ls hl => ?_)
    refine ja_2 (a := a) (b := b) hx hb hown hts hK hw hpf hn hmt hmf hA hml (fun nn5 le5 jo5 H locs ls hI5 hP hD hS hl => ?_) (mx_m F) 0 nn2 le2_1 jo2_1 _ _ _ (by omega) (ja_to j1 (fun x y => ⟨fun q => q.elim (fun z => z.elim) (fun z => Or.inr ⟨hn0, z⟩), fun q => q.elim (fun ⟨f, z, _⟩ => absurd z (Nat.not_lt_zero f)) (fun z => Or.inr z.2)⟩)) hP hD hS (lv_sub hl [1, 2, 0] rfl)
    refine lv_aload_n hx hb dX4_joinAll_98 rfl (lv_at hl 0 rfl) ?_
    refine lv_iconst (v := 1) hx hb dX4_joinAll_99 (by decide) ?_
    refine va_put (D := (dC, dI)) (ci := 4) (v := .int 1) (ty := .boolean) (C := RX4) (T := TX4) (N := 15) hx hb hts (fun w h => woX4_joinAll w (inX4 w h)) tyX4 tyX4_ok nmX4 hown hK hP hD hS 0 rfl rfl 12 (by decide) (hts _ (woX4_joinAll _ wd_505)) (fun _ h9 => h9) rfl (by decide +kernel) rfl rfl (Nat.le_of_ble_eq_true rfl) dX4_joinAll_100 (fun H locs hP hD hS => ?_)
    have hP : va_P (dC, dI) vwCl [(mA 0, .inr (4, [.int th, .ref (mA 1), .ref (mA 2), .ref (mA 3), .int (nI (mx_n T)), .int (nI (mx_m F)), .ref (mA 4), .ref (mA 5), .ref (mA 6), .ref (mA 7), .ref (mA 8), .ref (mA 9), .int 1, .ref (mA 10), .ref (mA 11)])), (mA 1, .inl (cZ, 16, .inl isb)), (mA 3, .inl (cI, 16, .inl pls)), (mA 4, .inl (cI, 60, .inl msg)), (mA 5, .inl (cI, 180, .inl at_)), (mA 6, .inl (cI, 40, .inl on)), (mA 7, .inl (cI, 40, .inl tw)), (mA 8, .inl (cZ, 40, .inl sa)), (mA 9, .inl (cI, 60, .inl le5))] H := hP
    have hD : va_D A [(mA 0, .inr (4, [.int th, .ref (mA 1), .ref (mA 2), .ref (mA 3), .int (nI (mx_n T)), .int (nI (mx_m F)), .ref (mA 4), .ref (mA 5), .ref (mA 6), .ref (mA 7), .ref (mA 8), .ref (mA 9), .int 1, .ref (mA 10), .ref (mA 11)])), (mA 1, .inl (cZ, 16, .inl isb)), (mA 3, .inl (cI, 16, .inl pls)), (mA 4, .inl (cI, 60, .inl msg)), (mA 5, .inl (cI, 180, .inl at_)), (mA 6, .inl (cI, 40, .inl on)), (mA 7, .inl (cI, 40, .inl tw)), (mA 8, .inl (cZ, 40, .inl sa)), (mA 9, .inl (cI, 60, .inl le5))] := hD
    refine ja_3 hx hb hown hts hK hw hpf hn hmt hmf hA hml (fun nn6 le6 jo6 H locs ls g1 g2 hP hD hS hl => ?_) (mx_n T + 1) nn5 le5 1 _ _ _ (fun _ => Nat.lt_succ_of_le (ja_rt nn5)) hI5 (Or.inr rfl) (fun z => absurd z (by decide)) hP hD hS (lv_sub hl [0] rfl)
    have hP9 := hP.sub (ws' := [(mA 0, .inr (4, [.int th, .ref (mA 1), .ref (mA 2), .ref (mA 3), .int (nI (mx_n T)), .int (nI (mx_m F)), .ref (mA 4), .ref (mA 5), .ref (mA 6), .ref (mA 7), .ref (mA 8), .ref (mA 9), .int jo6, .ref (mA 10), .ref (mA 11)])), (mA 1, .inl (cZ, 16, .inl isb)), (mA 3, .inl (cI, 16, .inl pls)), (mA 4, .inl (cI, 60, .inl msg)), (mA 5, .inl (cI, 180, .inl at_)), (mA 6, .inl (cI, 40, .inl on)), (mA 7, .inl (cI, 40, .inl tw)), (mA 8, .inl (cZ, 40, .inl sa)), (mA 9, .inl (cI, 60, .inl le6))]) [0, 1, 2, 3, 4, 5, 6, 7, 8] rfl
    have hD9 := hD.sub (ws' := [(mA 0, .inr (4, [.int th, .ref (mA 1), .ref (mA 2), .ref (mA 3), .int (nI (mx_n T)), .int (nI (mx_m F)), .ref (mA 4), .ref (mA 5), .ref (mA 6), .ref (mA 7), .ref (mA 8), .ref (mA 9), .int jo6, .ref (mA 10), .ref (mA 11)])), (mA 1, .inl (cZ, 16, .inl isb)), (mA 3, .inl (cI, 16, .inl pls)), (mA 4, .inl (cI, 60, .inl msg)), (mA 5, .inl (cI, 180, .inl at_)), (mA 6, .inl (cI, 40, .inl on)), (mA 7, .inl (cI, 40, .inl tw)), (mA 8, .inl (cZ, 40, .inl sa)), (mA 9, .inl (cI, 60, .inl le6))]) [0, 1, 2, 3, 4, 5, 6, 7, 8] (by decide) rfl
    exact W.vret hx hb hr (fun t9 ht9 hW9 => ⟨⟨(le6, jo6), rfl, ⟨nn6, g1, g2⟩, by rw [ht9]; exact hP9, va_K.moved hW9.alike hK, hD9⟩, hS.F ht9⟩) hS.2.2 dX4_joinAll_277
