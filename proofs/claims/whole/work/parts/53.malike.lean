set_option maxHeartbeats 4000000 in
set_option maxRecDepth 100000 in
theorem ma_loop {p : Program} {l : Launch} {e : Env} {s : State} {m : MethodId} {args : Array Value} {below : List Frame} {meth : Method} {c : Code} {Q : State → Prop} (hx : p.tables.exec = Jvm.exec) (hb : c.code = cX4_areAlike) (hown : s.vm.findClass RX4 = some m.cls) (hts : ∀ w ∈ wsX4_areAlike, w.before args s = true) {dC : Nat → ClassId} {dI : Nat → Nat → Nat} {cI cJ cZ : ClassId} (hK : va_K (dC, dI) vwCl [(cI, .int), (cJ, .long), (cZ, .boolean)] s) {T : mx_T} {F : mx_F} {nn : Nat → Nat} {mA : Nat → Nat} {th : Int32} {jo : Int32} {isb : Nat → Int32} {pls : Nat → Int32} {msg : Nat → Int32} {at_ : Nat → Int32} {le : Nat → Int32} {x : Nat} {y : Nat} (hw : mx_wf T) (hpf : mx_pf T) (hn : mx_n T ≤ 60) (hmt : md_T T isb pls msg at_) (h : md_L T nn le) (hx0 : x < mx_n T) (hy0 : y < mx_n T) (hs : mx_sg T x = mx_sg T y) {H : Heap} {locs : List Loc} (hP : va_P (dC, dI) vwCl [(mA 0, .inr (4, [.int th, .ref (mA 1), .ref (mA 2), .ref (mA 3), .int (nI (mx_n T)), .int (nI (mx_m F)), .ref (mA 4), .ref (mA 5), .ref (mA 6), .ref (mA 7), .ref (mA 8), .ref (mA 9), .int jo, .ref (mA 10), .ref (mA 11)])), (mA 3, .inl (cI, 16, .inl pls)), (mA 4, .inl (cI, 60, .inl msg)), (mA 5, .inl (cI, 180, .inl at_)), (mA 9, .inl (cI, 60, .inl le))] H) (hml : c.maxLocals = 5) (kk : ∀ (al : Int32) (ls : Array Slot), zb al (∀ j p q, j < mx_ar (mx_pl T) x → mx_pl T j x = some p → mx_pl T j y = some q → nn p = nn q) → lv_has ls 5 [(3, .int al)] → W p l e ({ frames := 0, cells := 0, slots := 0, locals := 0 }) s m args below meth c H locs 0 0 Q (F0 m 72 ls [])) : ∀ (d k : Nat) (al : Int32) (ls : Array Slot), k + d = mx_ar (mx_pl T) x → zb al (∀ j p q, j < k → mx_pl T j x = some p → mx_pl T j y = some q → nn p = nn q) → lv_has ls 5 [(0, .ref (mA 0)), (1, .int (nI x)), (2, .int (nI y)), (3, .int al), (4, .int (nI k))] → W p l e ({ frames := 0, cells := 0, slots := 0, locals := 0 }) s m args below meth c H locs 0 0 Q (F0 m 5 ls []) := by
  have h3 := mx_ar_le (mx_pl T) x
  obtain ⟨e1, e2, e3, -⟩ := hmt.1 x hx0
  intro d
  induction d with
  | zero =>
    intro k al ls hk hal hl
    refine lv_iload hx hb dX4_areAlike_5 (lv_at hl 4 rfl) ?_
    refine lv_aload_n hx hb dX4_areAlike_7 rfl (lv_at hl 0 rfl) ?_
    refine va_get (D := (dC, dI)) (ci := 4) (v := .ref (mA 3)) (C := RX4) (T := TX4) (N := 15) hx hb hts (fun w h => woX4_areAlike w (inX4 w h)) hown hK hP 0 rfl rfl 3 (by decide) (hts _ (woX4_areAlike _ wd_496)) (fun _ h9 => h9) rfl dX4_areAlike_8 ?_
    refine lv_aload_n hx hb dX4_areAlike_11 rfl (lv_at hl 0 rfl) ?_
    refine va_get (D := (dC, dI)) (ci := 4) (v := .ref (mA 4)) (C := RX4) (T := TX4) (N := 15) hx hb hts (fun w h => woX4_areAlike w (inX4 w h)) hown hK hP 0 rfl rfl 6 (by decide) (hts _ (woX4_areAlike _ wd_499)) (fun _ h9 => h9) rfl dX4_areAlike_12 ?_
    refine lv_iload_n hx hb dX4_areAlike_15 rfl (lv_at hl 1 rfl) ?_
    refine va_iald hx hb hK hP 2 0 rfl rfl (vp_in_nI (by omega) (by omega)) dX4_areAlike_16 ?_
    rw [show (nI x).toNatClampNeg = x from nI_clamp (by omega)]
    rw [e1]
    refine va_iald hx hb hK hP 1 0 rfl rfl (vp_in_nI (by omega) (by omega)) dX4_areAlike_17 ?_
    rw [show (nI (mx_sg T x)).toNatClampNeg = (mx_sg T x) from nI_clamp (by omega)]
    rw [e3]
    refine lv_icmp_ge (tgt := 72) hx hb dX4_areAlike_18 (by decide) (fun c1 => ?_) (fun c1 => ?_)
    · have e : k = mx_ar (mx_pl T) x := by omega
      rw [e] at hal
      exact kk al _ hal (lv_sub hl [3] rfl)
    · exact absurd (nI_le (a := mx_ar (mx_pl T) x) (b := k) (by omega) (by omega)) c1
  | succ d ih =>
    intro k al ls hk hal hl
    have hka : k < mx_ar (mx_pl T) x := by omega
    obtain ⟨p0, hp0⟩ := mx_ar_some hpf hx0 hka
    obtain ⟨q0, hq0⟩ := mx_ar_some hpf hy0 (by rw [← mx_ar_eq hw hx0 hy0 hs]; exact hka)
    have lp : p0 < mx_n T := Nat.lt_trans (hw.1 x k p0 hx0 hp0) hx0
    have lq : q0 < mx_n T := Nat.lt_trans (hw.1 y k q0 hy0 hq0) hy0
    have ax : at_ (3 * x + k) = nI p0 := by rw [hmt.2 x k hx0 (by omega), hp0]; rfl
    have ay : at_ (3 * y + k) = nI q0 := by rw [hmt.2 y k hy0 (by omega), hq0]; rfl
    refine lv_iload hx hb dX4_areAlike_5 (lv_at hl 4 rfl) ?_
    refine lv_aload_n hx hb dX4_areAlike_7 rfl (lv_at hl 0 rfl) ?_
    refine va_get (D := (dC, dI)) (ci := 4) (v := .ref (mA 3)) (C := RX4) (T := TX4) (N := 15) hx hb hts (fun w h => woX4_areAlike w (inX4 w h)) hown hK hP 0 rfl rfl 3 (by decide) (hts _ (woX4_areAlike _ wd_496)) (fun _ h9 => h9) rfl dX4_areAlike_8 ?_
    refine lv_aload_n hx hb dX4_areAlike_11 rfl (lv_at hl 0 rfl) ?_
    refine va_get (D := (dC, dI)) (ci := 4) (v := .ref (mA 4)) (C := RX4) (T := TX4) (N := 15) hx hb hts (fun w h => woX4_areAlike w (inX4 w h)) hown hK hP 0 rfl rfl 6 (by decide) (hts _ (woX4_areAlike _ wd_499)) (fun _ h9 => h9) rfl dX4_areAlike_12 ?_
    refine lv_iload_n hx hb dX4_areAlike_15 rfl (lv_at hl 1 rfl) ?_
    refine va_iald hx hb hK hP 2 0 rfl rfl (vp_in_nI (by omega) (by omega)) dX4_areAlike_16 ?_
    rw [show (nI x).toNatClampNeg = x from nI_clamp (by omega)]
    rw [e1]
    refine va_iald hx hb hK hP 1 0 rfl rfl (vp_in_nI (by omega) (by omega)) dX4_areAlike_17 ?_
    rw [show (nI (mx_sg T x)).toNatClampNeg = (mx_sg T x) from nI_clamp (by omega)]
    rw [e3]
    refine lv_icmp_ge (tgt := 72) hx hb dX4_areAlike_18 (by decide) (fun c1 => ?_) (fun c1 => ?_)
    · exact absurd c1 (nI_ge hka (by omega))
    · refine lv_iload_n hx hb dX4_areAlike_21 rfl (lv_at hl 3 rfl) ?_
      refine lv_if_eq (tgt := 64) hx hb dX4_areAlike_22 (by decide) (fun c2 => ?_) (fun c2 => ?_)
      · refine lv_iconst (v := 0) hx hb dX4_areAlike_64 (by decide) ?_
        refine lv_istore_n (lv' := [(3, .int 0), (0, .ref (mA 0)), (1, .int (nI x)), (2, .int (nI y)), (4, .int (nI k))]) hx hb dX4_areAlike_65 rfl hl (by decide) rfl (fun ls hl => ?_)
        obtain ⟨y_1, ey_1⟩ : ∃ y : Int32, y = (nI k) + 1 := ⟨_, rfl⟩
        refine lv_iinc (v := y_1) (lv' := [(4, .int y_1), (3, .int 0), (0, .ref (mA 0)), (1, .int (nI x)), (2, .int (nI y))]) hx hb dX4_areAlike_66 hl (k := 4) rfl (by rw [ey_1]; rfl) (by decide) rfl (fun ls hl => ?_)
        refine lv_goto (tgt := 5) hx hb dX4_areAlike_69 (by decide) ?_
        rw [ey_1, nI_1] at hl
        refine ih (k + 1) 0 _ (by omega) ?_ (lv_sub hl [2, 3, 4, 1, 0] rfl)
        exact Or.inr ⟨rfl, fun z => zb_f hal c2 (fun j p q hj => z j p q (by omega))⟩
      · refine lv_aload_n hx hb dX4_areAlike_25 rfl (lv_at hl 0 rfl) ?_
        refine va_get (D := (dC, dI)) (ci := 4) (v := .ref (mA 9)) (C := RX4) (T := TX4) (N := 15) hx hb hts (fun w h => woX4_areAlike w (inX4 w h)) hown hK hP 0 rfl rfl 11 (by decide) (hts _ (woX4_areAlike _ wd_504)) (fun _ h9 => h9) rfl dX4_areAlike_26 ?_
        refine lv_aload_n hx hb dX4_areAlike_29 rfl (lv_at hl 0 rfl) ?_
        refine va_get (D := (dC, dI)) (ci := 4) (v := .ref (mA 5)) (C := RX4) (T := TX4) (N := 15) hx hb hts (fun w h => woX4_areAlike w (inX4 w h)) hown hK hP 0 rfl rfl 7 (by decide) (hts _ (woX4_areAlike _ wd_500)) (fun _ h9 => h9) rfl dX4_areAlike_30 ?_
        refine lv_iconst (v := 3) hx hb dX4_areAlike_33 (by decide) ?_
        refine lv_iload_n hx hb dX4_areAlike_34 rfl (lv_at hl 1 rfl) ?_
        refine lv_imul hx hb dX4_areAlike_35 ?_
        refine lv_iload hx hb dX4_areAlike_36 (lv_at hl 4 rfl) ?_
        refine lv_iadd hx hb dX4_areAlike_38 ?_
        rw [ix3]
        refine va_iald hx hb hK hP 3 0 rfl rfl (vp_in_nI (by omega) (by omega)) dX4_areAlike_39 ?_
        rw [show (nI (3 * x + k)).toNatClampNeg = (3 * x + k) from nI_clamp (by omega)]
        rw [ax]
        refine va_iald hx hb hK hP 4 0 rfl rfl (vp_in_nI (by omega) (by omega)) dX4_areAlike_40 ?_
        rw [show (nI p0).toNatClampNeg = p0 from nI_clamp (by omega)]
        rw [h.1 p0 lp]
        refine lv_aload_n hx hb dX4_areAlike_41 rfl (lv_at hl 0 rfl) ?_
        refine va_get (D := (dC, dI)) (ci := 4) (v := .ref (mA 9)) (C := RX4) (T := TX4) (N := 15) hx hb hts (fun w h => woX4_areAlike w (inX4 w h)) hown hK hP 0 rfl rfl 11 (by decide) (hts _ (woX4_areAlike _ wd_504)) (fun _ h9 => h9) rfl dX4_areAlike_42 ?_
        refine lv_aload_n hx hb dX4_areAlike_45 rfl (lv_at hl 0 rfl) ?_
        refine va_get (D := (dC, dI)) (ci := 4) (v := .ref (mA 5)) (C := RX4) (T := TX4) (N := 15) hx hb hts (fun w h => woX4_areAlike w (inX4 w h)) hown hK hP 0 rfl rfl 7 (by decide) (hts _ (woX4_areAlike _ wd_500)) (fun _ h9 => h9) rfl dX4_areAlike_46 ?_
        refine lv_iconst (v := 3) hx hb dX4_areAlike_49 (by decide) ?_
        refine lv_iload_n hx hb dX4_areAlike_50 rfl (lv_at hl 2 rfl) ?_
        refine lv_imul hx hb dX4_areAlike_51 ?_
        refine lv_iload hx hb dX4_areAlike_52 (lv_at hl 4 rfl) ?_
        refine lv_iadd hx hb dX4_areAlike_54 ?_
        rw [ix3]
        refine va_iald hx hb hK hP 3 0 rfl rfl (vp_in_nI (by omega) (by omega)) dX4_areAlike_55 ?_
        rw [show (nI (3 * y + k)).toNatClampNeg = (3 * y + k) from nI_clamp (by omega)]
        rw [ay]
        refine va_iald hx hb hK hP 4 0 rfl rfl (vp_in_nI (by omega) (by omega)) dX4_areAlike_56 ?_
        rw [show (nI q0).toNatClampNeg = q0 from nI_clamp (by omega)]
        rw [h.1 q0 lq]
        have np := h.2 p0 lp
        have nq := h.2 q0 lq
        refine lv_icmp_ne (tgt := 64) hx hb dX4_areAlike_57 (by decide) (fun c3 => ?_) (fun c3 => ?_)
        · refine lv_iconst (v := 0) hx hb dX4_areAlike_64 (by decide) ?_
          refine lv_istore_n (lv' := [(3, .int 0), (0, .ref (mA 0)), (1, .int (nI x)), (2, .int (nI y)), (4, .int (nI k))]) hx hb dX4_areAlike_65 rfl hl (by decide) rfl (fun ls hl => ?_)
          obtain ⟨y_2, ey_2⟩ : ∃ y : Int32, y = (nI k) + 1 := ⟨_, rfl⟩
          refine lv_iinc (v := y_2) (lv' := [(4, .int y_2), (3, .int 0), (0, .ref (mA 0)), (1, .int (nI x)), (2, .int (nI y))]) hx hb dX4_areAlike_66 hl (k := 4) rfl (by rw [ey_2]; rfl) (by decide) rfl (fun ls hl => ?_)
          refine lv_goto (tgt := 5) hx hb dX4_areAlike_69 (by decide) ?_
          rw [ey_2, nI_1] at hl
          refine ih (k + 1) 0 _ (by omega) ?_ (lv_sub hl [2, 3, 4, 1, 0] rfl)
          exact Or.inr ⟨rfl, fun z => c3 (by rw [z k p0 q0 (by omega) hp0 hq0])⟩
        · refine lv_iconst (v := 1) hx hb dX4_areAlike_60 (by decide) ?_
          refine lv_goto (tgt := 65) hx hb dX4_areAlike_61 (by decide) ?_
          refine lv_istore_n (lv' := [(3, .int 1), (0, .ref (mA 0)), (1, .int (nI x)), (2, .int (nI y)), (4, .int (nI k))]) hx hb dX4_areAlike_65 rfl hl (by decide) rfl (fun ls hl => ?_)
          obtain ⟨y_3, ey_3⟩ : ∃ y : Int32, y = (nI k) + 1 := ⟨_, rfl⟩
          refine lv_iinc (v := y_3) (lv' := [(4, .int y_3), (3, .int 1), (0, .ref (mA 0)), (1, .int (nI x)), (2, .int (nI y))]) hx hb dX4_areAlike_66 hl (k := 4) rfl (by rw [ey_3]; rfl) (by decide) rfl (fun ls hl => ?_)
          refine lv_goto (tgt := 5) hx hb dX4_areAlike_69 (by decide) ?_
          rw [ey_3, nI_1] at hl
          refine ih (k + 1) 1 _ (by omega) ?_ (lv_sub hl [2, 3, 4, 1, 0] rfl)
          refine Or.inl ⟨rfl, ?_⟩
          intro j p q hj h1 h2; rcases (show j < k ∨ j = k by omega) with z | rfl
          · exact (zb_t hal c2) j p q z h1 h2
          · rw [hp0] at h1; rw [hq0] at h2; cases h1; cases h2; exact (nI_eq (by omega) (by omega)).mp c3

set_option maxHeartbeats 4000000 in
set_option maxRecDepth 100000 in
theorem m_areAlike (l : Launch) (dC : Nat → ClassId) (dI : Nat → Nat → Nat) (cI cJ cZ : ClassId) (T : mx_T) (F : mx_F) (nn : Nat → Nat) (mA : Nat → Nat) (th : Int32) (jo : Int32) (isb : Nat → Int32) (pls : Nat → Int32) (msg : Nat → Int32) (at_ : Nat → Int32) (le : Nat → Int32) (x : Nat) (y : Nat) (hw : mx_wf T) (hpf : mx_pf T) (hn : mx_n T ≤ 60) (hmt : md_T T isb pls msg at_) (h : md_L T nn le) (hx0 : x < mx_n T) (hy0 : y < mx_n T) (hs : mx_sg T x = mx_sg T y) : Met l yX4_areAlike wsX4_areAlike ({ frames := 0, cells := 0, slots := 0, locals := 0 }) (va_Pc [.ref (mA 0), .int (nI x), .int (nI y)] (fun U => va_P (dC, dI) vwCl [(mA 0, .inr (4, [.int th, .ref (mA 1), .ref (mA 2), .ref (mA 3), .int (nI (mx_n T)), .int (nI (mx_m F)), .ref (mA 4), .ref (mA 5), .ref (mA 6), .ref (mA 7), .ref (mA 8), .ref (mA 9), .int jo, .ref (mA 10), .ref (mA 11)])), (mA 3, .inl (cI, 16, .inl pls)), (mA 4, .inl (cI, 60, .inl msg)), (mA 5, .inl (cI, 180, .inl at_)), (mA 9, .inl (cI, 60, .inl le))] U.heap ∧ va_K (dC, dI) vwCl [(cI, .int), (cJ, .long), (cZ, .boolean)] U)) (vp_Si (fun r => zb r (∀ j, j < 3 → mx_pr (mx_r (mx_n T) nn) (mx_pl T j x) (mx_pl T j y)))) 0 0 (fun _ => False) := by
  refine Met.ofW (cc := cX4_areAlike) (maxL := 5) (ret := (some .boolean)) (by decide) rfl ?_
  intro p e s m args below meth c s₁ B hml hv
  obtain ⟨rfl, hP, hK⟩ := hv
  have hx := B.exec
  have hb := B.bytes
  have hr := B.returns
  have hts := atoms_spec (ws := wsX4_areAlike) B.pre
  have hown : s.vm.findClass RX4 = some m.cls := findClass_of_methodNamed B.named
  have hlocks := B.notSynchronized
  have hP : va_P (dC, dI) vwCl [(mA 0, .inr (4, [.int th, .ref (mA 1), .ref (mA 2), .ref (mA 3), .int (nI (mx_n T)), .int (nI (mx_m F)), .ref (mA 4), .ref (mA 5), .ref (mA 6), .ref (mA 7), .ref (mA 8), .ref (mA 9), .int jo, .ref (mA 10), .ref (mA 11)])), (mA 3, .inl (cI, 16, .inl pls)), (mA 4, .inl (cI, 60, .inl msg)), (mA 5, .inl (cI, 180, .inl at_)), (mA 9, .inl (cI, 60, .inl le))] s.heap := hP
  have hl := lv_entry ([.ref (mA 0), .int (nI x), .int (nI y)]) (n := 5) (Nat.le_of_ble_eq_true rfl)
  rw [lg_entry_eq]
  generalize (lg_sl ([.ref (mA 0), .int (nI x), .int (nI y)]) ++ List.replicate (5 - (lg_sl ([.ref (mA 0), .int (nI x), .int (nI y)])).length) Slot.unset).toArray = ls at hl ⊢
  have hl : lv_has ls 5 [(0, .ref (mA 0)), (1, .int (nI x)), (2, .int (nI y))] := hl
  refine lv_iconst (v := 1) hx hb dX4_areAlike_0 (by decide) ?_
  refine lv_istore_n (lv' := [(3, .int 1), (0, .ref (mA 0)), (1, .int (nI x)), (2, .int (nI y))]) hx hb dX4_areAlike_1 rfl hl (by decide) rfl (fun ls hl => ?_)
  refine lv_iconst (v := 0) hx hb dX4_areAlike_2 (by decide) ?_
  refine lv_istore (lv' := [(4, .int 0), (3, .int 1), (0, .ref (mA 0)), (1, .int (nI x)), (2, .int (nI y))]) hx hb dX4_areAlike_3 hl (by decide) rfl (fun ls hl => ?_)
  refine ma_loop hx hb hown hts hK hw hpf hn hmt h hx0 hy0 hs hP hml (fun al ls hal hl => ?_) (mx_ar (mx_pl T) x) 0 1 _ (by omega) (Or.inl ⟨rfl, fun j p q hj => absurd hj (Nat.not_lt_zero j)⟩) (lv_sub hl [2, 3, 4, 1, 0] rfl)
  rcases hal with ⟨rfl, e2⟩ | ⟨rfl, e2⟩
  · refine lv_iload_n hx hb dX4_areAlike_72 rfl (lv_at hl 0 rfl) ?_
    exact W.zret (v := 1) hx hb hr rfl (fun t9 ht9 _ => ⟨_, rfl, Or.inl ⟨rfl, pr_all hw hpf hx0 hy0 hs e2⟩, ht9⟩) (fun q h => by cases h) dX4_areAlike_73
  · refine lv_iload_n hx hb dX4_areAlike_72 rfl (lv_at hl 0 rfl) ?_
    exact W.zret (v := 0) hx hb hr rfl (fun t9 ht9 _ => ⟨_, rfl, Or.inr ⟨rfl, fun z => e2 (fun j p q hj h1 h2 => by have z1 := z j (by have := mx_ar_le (mx_pl T) x; omega); rw [h1, h2] at z1; exact z1.2.2)⟩, ht9⟩) (fun q h => by cases h) dX4_areAlike_73
