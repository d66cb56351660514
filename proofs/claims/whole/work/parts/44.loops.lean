set_option maxHeartbeats 4000000 in
set_option maxRecDepth 100000 in
theorem cm_loop {p : Program} {l : Launch} {e : Env} {s : State} {m : MethodId} {args : Array Value} {below : List Frame} {meth : Method} {c : Code} {Q : State → Prop} (hx : p.tables.exec = Jvm.exec) (hb : c.code = cX1_clearMore) (hown : s.vm.findClass RX1 = some m.cls) (hts : ∀ w ∈ wsX1_clearMore, w.before args s = true) {dC : Nat → ClassId} {dI : Nat → Nat → Nat} {cI cJ cZ : ClassId} (hK : va_K (dC, dI) vwCl [(cI, .int), (cJ, .long), (cZ, .boolean)] s) {T : mx_T} {nn : Nat → Nat} {fu : Nat → Int64} {su : Nat → Int64} {tu : Nat → Int64} {bd : Nat → Int32} {rA : Nat → Nat} {tA : Nat → Nat} {nm : Nat → Int32} {me : Nat → Int64} {be : Nat → Int64} {un : Int64} {mi : Int32} {bu : Int64} {cl : Int64} (hn : mx_n T ≤ 60) (h : rk_ok T nn nm me fu su tu be bd mi) {H : Heap} {locs : List Loc} (hP : va_P (dC, dI) vwCl [(rA 0, .inr (1, [.ref (tA 0), .ref (rA 1), .ref (rA 2), .ref (rA 3), .ref (rA 4), .ref (rA 5), .ref (rA 6), .ref (rA 7), .long un, .int mi])), (rA 1, .inl (cI, 60, .inl nm)), (rA 2, .inl (cJ, 60, .inr (.inl me))), (rA 6, .inl (cJ, 60, .inr (.inl be))), (tA 0, .inr (2, [.ref (tA 1), .ref (tA 2), .ref (tA 3), .ref (tA 4), .ref (tA 5), .ref (tA 6), .ref (tA 7), .ref (tA 8), .long bu, .int (nI (mx_n T))]))] H) (hml : c.maxLocals = 6) (kk : ∀ (cd : Int64) (ls : Array Slot), cm_I T nn cl (mx_n T) cd → lv_has ls 6 [(3, .long cd)] → W p l e ({ frames := 0, cells := 0, slots := 0, locals := 0 }) s m args below meth c H locs 0 0 Q (F0 m 63 ls [])) : ∀ (k t : Nat) (cd : Int64) (ls : Array Slot), t + k = mx_n T → cm_I T nn cl t cd → lv_has ls 6 [(0, .ref (rA 0)), (3, .long cd), (5, .int (nI t))] → W p l e ({ frames := 0, cells := 0, slots := 0, locals := 0 }) s m args below meth c H locs 0 0 Q (F0 m 5 ls []) := by
  intro k
  induction k with
  | zero =>
    intro t cd ls htk hI hl
    refine lv_iload hx hb dX1_clearMore_5 (lv_at hl 2 rfl) ?_
    refine lv_aload_n hx hb dX1_clearMore_7 rfl (lv_at hl 0 rfl) ?_
    refine va_get (D := (dC, dI)) (ci := 1) (v := .ref (tA 0)) (C := RX1) (T := TX1) (N := 10) hx hb hts (fun w h => woX1_clearMore w (inX1 w h)) hown hK hP 0 rfl rfl 0 (by decide) (hts _ (woX1_clearMore _ wd_108)) (fun _ h9 => h9) rfl dX1_clearMore_8 ?_
    refine va_get (D := (dC, dI)) (ci := 2) (v := .int (nI (mx_n T))) (C := RX2) (T := TX2) (N := 10) hx hb hts (fun w h => woX1_clearMore w (inX2 w h)) hown hK hP 4 rfl rfl 9 (by decide) (hts _ (woX1_clearMore _ wd_54)) (fun _ h9 => h9) rfl dX1_clearMore_11 ?_
    refine lv_icmp_ge (tgt := 63) hx hb dX1_clearMore_14 (by decide) (fun c1 => ?_) (fun c1 => ?_)
    · have e : t = mx_n T := by omega
      subst e
      exact kk cd _ hI (lv_sub hl [1] rfl)
    · exact absurd (nI_le (by omega) (by omega)) c1
  | succ k ih =>
    intro t cd ls htk hI hl
    have ht : t < mx_n T := by omega
    have e1 := h.1 t ht
    have hnt : nn t < mx_n T := (h.2.choose_spec.choose_spec.1.1 t ht).1
    refine lv_iload hx hb dX1_clearMore_5 (lv_at hl 2 rfl) ?_
    refine lv_aload_n hx hb dX1_clearMore_7 rfl (lv_at hl 0 rfl) ?_
    refine va_get (D := (dC, dI)) (ci := 1) (v := .ref (tA 0)) (C := RX1) (T := TX1) (N := 10) hx hb hts (fun w h => woX1_clearMore w (inX1 w h)) hown hK hP 0 rfl rfl 0 (by decide) (hts _ (woX1_clearMore _ wd_108)) (fun _ h9 => h9) rfl dX1_clearMore_8 ?_
    refine va_get (D := (dC, dI)) (ci := 2) (v := .int (nI (mx_n T))) (C := RX2) (T := TX2) (N := 10) hx hb hts (fun w h => woX1_clearMore w (inX2 w h)) hown hK hP 4 rfl rfl 9 (by decide) (hts _ (woX1_clearMore _ wd_54)) (fun _ h9 => h9) rfl dX1_clearMore_11 ?_
    refine lv_icmp_ge (tgt := 63) hx hb dX1_clearMore_14 (by decide) (fun c1 => ?_) (fun c1 => ?_)
    · exact absurd c1 (nI_ge ht (by omega))
    · refine lv_aload_n hx hb dX1_clearMore_17 rfl (lv_at hl 0 rfl) ?_
      refine va_get (D := (dC, dI)) (ci := 1) (v := .ref (rA 1)) (C := RX1) (T := TX1) (N := 10) hx hb hts (fun w h => woX1_clearMore w (inX1 w h)) hown hK hP 0 rfl rfl 1 (by decide) (hts _ (woX1_clearMore _ wd_109)) (fun _ h9 => h9) rfl dX1_clearMore_18 ?_
      refine lv_iload hx hb dX1_clearMore_21 (lv_at hl 2 rfl) ?_
      refine va_iald hx hb hK hP 1 0 rfl rfl (vp_in_nI (by omega) (by omega)) dX1_clearMore_23 ?_
      rw [show (nI t).toNatClampNeg = t from nI_clamp (by omega)]
      refine lv_iload hx hb dX1_clearMore_24 (lv_at hl 2 rfl) ?_
      refine lv_icmp_ne (tgt := 57) hx hb dX1_clearMore_26 (by decide) (fun c2 => ?_) (fun c2 => ?_)
      · have hne : ¬ nn t = t := fun z => c2 (by rw [e1, z])
        obtain ⟨y_1, ey_1⟩ : ∃ y : Int32, y = (nI t) + 1 := ⟨_, rfl⟩
        refine lv_iinc (v := y_1) (lv' := [(5, .int y_1), (0, .ref (rA 0)), (3, .long cd)]) hx hb dX1_clearMore_57 hl (k := 2) rfl (by rw [ey_1]; rfl) (by decide) rfl (fun ls hl => ?_)
        refine lv_goto (tgt := 5) hx hb dX1_clearMore_60 (by decide) ?_
        rw [ey_1, nI_1] at hl
        exact ih (t + 1) cd _ (by omega) (cm_skip hI hne) (lv_sub hl [1, 2, 0] rfl)
      · have he : nn t = t := (nI_eq (by omega) (by omega)).mp (e1.symm.trans c2)
        refine lv_aload_n hx hb dX1_clearMore_29 rfl (lv_at hl 0 rfl) ?_
        refine va_get (D := (dC, dI)) (ci := 1) (v := .ref (rA 6)) (C := RX1) (T := TX1) (N := 10) hx hb hts (fun w h => woX1_clearMore w (inX1 w h)) hown hK hP 0 rfl rfl 6 (by decide) (hts _ (woX1_clearMore _ wd_116)) (fun _ h9 => h9) rfl dX1_clearMore_30 ?_
        refine lv_iload hx hb dX1_clearMore_33 (lv_at hl 2 rfl) ?_
        refine va_lald hx hb hK hP 3 1 rfl rfl (vp_in_nI (by omega) (by omega)) dX1_clearMore_35 ?_
        rw [show (nI t).toNatClampNeg = t from nI_clamp (by omega)]
        refine lv_lload_n hx hb dX1_clearMore_36 rfl (lv_at hl 1 rfl) ?_
        refine lv_ldc2 (v := (-1)) hx hb hown (hts _ (woX1_clearMore _ wd_254)) dX1_clearMore_37 ?_
        refine lv_lxor hx hb dX1_clearMore_40 ?_
        refine lv_land hx hb dX1_clearMore_41 ?_
        refine lv_lconst (v := 0) hx hb dX1_clearMore_42 (by decide) ?_
        refine W.lcmp hx hb dX1_clearMore_43 ?_
        refine lv_if_ne (tgt := 57) hx hb dX1_clearMore_44 (by decide) (fun c3 => ?_) (fun c3 => ?_)
        · have hq : ¬ (be t &&& (cd ^^^ (-1))) = 0 := fun z => c3 (lc_0.mpr z)
          obtain ⟨y_2, ey_2⟩ : ∃ y : Int32, y = (nI t) + 1 := ⟨_, rfl⟩
          refine lv_iinc (v := y_2) (lv' := [(5, .int y_2), (0, .ref (rA 0)), (3, .long cd)]) hx hb dX1_clearMore_57 hl (k := 2) rfl (by rw [ey_2]; rfl) (by decide) rfl (fun ls hl => ?_)
          refine lv_goto (tgt := 5) hx hb dX1_clearMore_60 (by decide) ?_
          rw [ey_2, nI_1] at hl
          exact ih (t + 1) cd _ (by omega) (cm_no h ht hI he hq) (lv_sub hl [1, 2, 0] rfl)
        · have hq : (be t &&& (cd ^^^ (-1))) = 0 := lc_0.mp c3
          refine lv_lload_n hx hb dX1_clearMore_47 rfl (lv_at hl 1 rfl) ?_
          refine lv_aload_n hx hb dX1_clearMore_48 rfl (lv_at hl 0 rfl) ?_
          refine va_get (D := (dC, dI)) (ci := 1) (v := .ref (rA 2)) (C := RX1) (T := TX1) (N := 10) hx hb hts (fun w h => woX1_clearMore w (inX1 w h)) hown hK hP 0 rfl rfl 2 (by decide) (hts _ (woX1_clearMore _ wd_111)) (fun _ h9 => h9) rfl dX1_clearMore_49 ?_
          refine lv_iload hx hb dX1_clearMore_52 (lv_at hl 2 rfl) ?_
          refine va_lald hx hb hK hP 2 1 rfl rfl (vp_in_nI (by omega) (by omega)) dX1_clearMore_54 ?_
          rw [show (nI t).toNatClampNeg = t from nI_clamp (by omega)]
          refine lv_lor hx hb dX1_clearMore_55 ?_
          refine lv_lstore_n (lv' := [(3, .long (cd ||| (me t))), (0, .ref (rA 0)), (5, .int (nI t))]) hx hb dX1_clearMore_56 rfl hl (by decide) rfl (fun ls hl => ?_)
          obtain ⟨y_3, ey_3⟩ : ∃ y : Int32, y = (nI t) + 1 := ⟨_, rfl⟩
          refine lv_iinc (v := y_3) (lv' := [(5, .int y_3), (3, .long (cd ||| (me t))), (0, .ref (rA 0))]) hx hb dX1_clearMore_57 hl (k := 2) rfl (by rw [ey_3]; rfl) (by decide) rfl (fun ls hl => ?_)
          refine lv_goto (tgt := 5) hx hb dX1_clearMore_60 (by decide) ?_
          rw [ey_3, nI_1] at hl
          exact ih (t + 1) (cd ||| me t) _ (by omega) (cm_yes h ht hI he hq) (lv_sub hl [2, 1, 0] rfl)

set_option maxHeartbeats 4000000 in
set_option maxRecDepth 100000 in
/-- clearMore -/
theorem c_clearMore (l : Launch) (dC : Nat → ClassId) (dI : Nat → Nat → Nat) (cI cJ cZ : ClassId) (T : mx_T) (nn : Nat → Nat) (fu : Nat → Int64) (su : Nat → Int64) (tu : Nat → Int64) (bd : Nat → Int32) (rA : Nat → Nat) (tA : Nat → Nat) (nm : Nat → Int32) (me : Nat → Int64) (be : Nat → Int64) (un : Int64) (mi : Int32) (bu : Int64) (cl : Int64) (hn : mx_n T ≤ 60) (h : rk_ok T nn nm me fu su tu be bd mi) : Met l yX1_clearMore wsX1_clearMore ({ frames := 0, cells := 0, slots := 0, locals := 0 }) (va_Pc [.ref (rA 0), .long cl] (fun U => va_P (dC, dI) vwCl [(rA 0, .inr (1, [.ref (tA 0), .ref (rA 1), .ref (rA 2), .ref (rA 3), .ref (rA 4), .ref (rA 5), .ref (rA 6), .ref (rA 7), .long un, .int mi])), (rA 1, .inl (cI, 60, .inl nm)), (rA 2, .inl (cJ, 60, .inr (.inl me))), (rA 6, .inl (cJ, 60, .inr (.inl be))), (tA 0, .inr (2, [.ref (tA 1), .ref (tA 2), .ref (tA 3), .ref (tA 4), .ref (tA 5), .ref (tA 6), .ref (tA 7), .ref (tA 8), .long bu, .int (nI (mx_n T))]))] U.heap ∧ va_K (dC, dI) vwCl [(cI, .int), (cJ, .long), (cZ, .boolean)] U)) (vp_Sl (fun r => cm_I T nn cl (mx_n T) r)) 0 0 (fun _ => False) := by
  refine Met.ofW (cc := cX1_clearMore) (maxL := 6) (ret := (some .long)) (by decide) rfl ?_
  intro p e s m args below meth c s₁ B hml hv
  obtain ⟨rfl, hP, hK⟩ := hv
  have hx := B.exec
  have hb := B.bytes
  have hr := B.returns
  have hts := atoms_spec (ws := wsX1_clearMore) B.pre
  have hown : s.vm.findClass RX1 = some m.cls := findClass_of_methodNamed B.named
  have hlocks := B.notSynchronized
  have hP : va_P (dC, dI) vwCl [(rA 0, .inr (1, [.ref (tA 0), .ref (rA 1), .ref (rA 2), .ref (rA 3), .ref (rA 4), .ref (rA 5), .ref (rA 6), .ref (rA 7), .long un, .int mi])), (rA 1, .inl (cI, 60, .inl nm)), (rA 2, .inl (cJ, 60, .inr (.inl me))), (rA 6, .inl (cJ, 60, .inr (.inl be))), (tA 0, .inr (2, [.ref (tA 1), .ref (tA 2), .ref (tA 3), .ref (tA 4), .ref (tA 5), .ref (tA 6), .ref (tA 7), .ref (tA 8), .long bu, .int (nI (mx_n T))]))] s.heap := hP
  have hl := lv_entry ([.ref (rA 0), .long cl]) (n := 6) (Nat.le_of_ble_eq_true rfl)
  rw [lg_entry_eq]
  generalize (lg_sl ([.ref (rA 0), .long cl]) ++ List.replicate (6 - (lg_sl ([.ref (rA 0), .long cl])).length) Slot.unset).toArray = ls at hl ⊢
  have hl : lv_has ls 6 [(0, .ref (rA 0)), (1, .long cl)] := hl
  refine lv_lload_n hx hb dX1_clearMore_0 rfl (lv_at hl 1 rfl) ?_
  refine lv_lstore_n (lv' := [(3, .long cl), (0, .ref (rA 0)), (1, .long cl)]) hx hb dX1_clearMore_1 rfl hl (by decide) rfl (fun ls hl => ?_)
  refine lv_iconst (v := 0) hx hb dX1_clearMore_2 (by decide) ?_
  refine lv_istore (lv' := [(5, .int 0), (3, .long cl), (0, .ref (rA 0)), (1, .long cl)]) hx hb dX1_clearMore_3 hl (by decide) rfl (fun ls hl => ?_)
  refine cm_loop hx hb hown hts hK hn h hP hml (fun cd ls hI hl => ?_) (mx_n T) 0 cl _ (by omega) (cm_0 T nn cl) (lv_sub hl [2, 1, 0] rfl)
  refine lv_lload_n hx hb dX1_clearMore_63 rfl (lv_at hl 0 rfl) ?_
  exact W.lret (v := cd) hx hb hr (fun t9 ht9 _ => ⟨_, rfl, hI, ht9⟩) (fun q h => by cases h) dX1_clearMore_64

set_option maxHeartbeats 4000000 in
set_option maxRecDepth 100000 in
theorem hl_loop {p : Program} {l : Launch} {e : Env} {s : State} {m : MethodId} {args : Array Value} {below : List Frame} {meth : Method} {c : Code} {Q : State → Prop} (hx : p.tables.exec = Jvm.exec) (hb : c.code = cX1_hasLoop) (hown : s.vm.findClass RX1 = some m.cls) (hts : ∀ w ∈ wsX1_hasLoop, w.before args s = true) {dC : Nat → ClassId} {dI : Nat → Nat → Nat} {cI cJ cZ : ClassId} (hK : va_K (dC, dI) vwCl [(cI, .int), (cJ, .long), (cZ, .boolean)] s) {T : mx_T} {nn : Nat → Nat} {fu : Nat → Int64} {su : Nat → Int64} {tu : Nat → Int64} {bd : Nat → Int32} {rA : Nat → Nat} {tA : Nat → Nat} {nm : Nat → Int32} {me : Nat → Int64} {be : Nat → Int64} {un : Int64} {mi : Int32} {bu : Int64} {al : Int64} (hn : mx_n T ≤ 60) (h : rk_ok T nn nm me fu su tu be bd mi) (hal : ∀ i, jb al i = decide (i < mx_n T)) {H : Heap} {locs : List Loc} (hP : va_P (dC, dI) vwCl [(rA 0, .inr (1, [.ref (tA 0), .ref (rA 1), .ref (rA 2), .ref (rA 3), .ref (rA 4), .ref (rA 5), .ref (rA 6), .ref (rA 7), .long un, .int mi])), (rA 1, .inl (cI, 60, .inl nm)), (rA 2, .inl (cJ, 60, .inr (.inl me))), (rA 6, .inl (cJ, 60, .inr (.inl be))), (tA 0, .inr (2, [.ref (tA 1), .ref (tA 2), .ref (tA 3), .ref (tA 4), .ref (tA 5), .ref (tA 6), .ref (tA 7), .ref (tA 8), .long bu, .int (nI (mx_n T))]))] H) (hml : c.maxLocals = 8) (k0 : ∀ (ls : Array Slot), ¬ mx_cC T nn → W p l e ({ frames := 1, cells := 0, slots := 0, locals := 25 }) s m args below meth c H locs 0 0 Q (F0 m 55 ls [])) (k1 : ∀ (ls : Array Slot), mx_cC T nn → W p l e ({ frames := 1, cells := 0, slots := 0, locals := 25 }) s m args below meth c H locs 0 0 Q (F0 m 44 ls [])) : ∀ (k way : Nat) (cl : Int64) (ls : Array Slot), way + k = 61 → way ≤ jb_cnt cl → (∀ x, jb cl x = true → x < mx_n T ∧ mx_clr T nn x) → lv_has ls 8 [(0, .ref (rA 0)), (1, .long al), (3, .long cl), (5, .int (nI way))] → W p l e ({ frames := 1, cells := 0, slots := 0, locals := 25 }) s m args below meth c H locs 0 0 Q (F0 m 17 ls []) := by
  have hroot := h.2.choose_spec.choose_spec.1.1
  intro k
  induction k with
  | zero =>
    intro way cl ls hk hc hs hl
    have h1 : jb_cnt cl ≤ mx_n T := jb_cnt_n2 (by omega) (fun x hx => (hs x hx).1)
    exact absurd hc (by omega)
  | succ k ih =>
    intro way cl ls hk hc hs hl
    have h1 : jb_cnt cl ≤ mx_n T := jb_cnt_n2 (by omega) (fun x hx => (hs x hx).1)
    refine lv_iload hx hb dX1_hasLoop_17 (lv_at hl 3 rfl) ?_
    refine lv_bipush (v := 60) hx hb dX1_hasLoop_19 (by decide) ?_
    refine lv_icmp_gt (tgt := 55) hx hb dX1_hasLoop_21 (by decide) (fun c1 => ?_) (fun c1 => ?_)
    · exact absurd c1 (nI_nlt (a := 60) (b := way) (by omega) (by omega))
    · refine lv_lload_n hx hb dX1_hasLoop_24 rfl (lv_at hl 2 rfl) ?_
      refine lv_lload_n hx hb dX1_hasLoop_25 rfl (lv_at hl 1 rfl) ?_
      refine W.lcmp hx hb dX1_hasLoop_26 ?_
      refine lv_if_eq (tgt := 55) hx hb dX1_hasLoop_27 (by decide) (fun c2 => ?_) (fun c2 => ?_)
      · have e : cl = al := (lg_cmp_eq _ _).mp c2
        exact k0 _ (fun ⟨x, hx, hnx⟩ => hnx (hs x (by rw [e, hal x]; exact decide_eq_true hx)).2)
      · have hne : ¬ cl = al := fun z => c2 ((lg_cmp_eq _ _).mpr z)
        refine lv_aload_n hx hb dX1_hasLoop_30 rfl (lv_at hl 0 rfl) ?_
        refine lv_lload_n hx hb dX1_hasLoop_31 rfl (lv_at hl 2 rfl) ?_
        have hPc := hP.sub (ws' := [(rA 0, .inr (1, [.ref (tA 0), .ref (rA 1), .ref (rA 2), .ref (rA 3), .ref (rA 4), .ref (rA 5), .ref (rA 6), .ref (rA 7), .long un, .int mi])), (rA 1, .inl (cI, 60, .inl nm)), (rA 2, .inl (cJ, 60, .inr (.inl me))), (rA 6, .inl (cJ, 60, .inr (.inl be))), (tA 0, .inr (2, [.ref (tA 1), .ref (tA 2), .ref (tA 3), .ref (tA 4), .ref (tA 5), .ref (tA 6), .ref (tA 7), .ref (tA 8), .long bu, .int (nI (mx_n T))]))]) [0, 1, 2, 3, 4] rfl
        refine vp_callSl (W.runV (As := [.long cl]) (rest := []) ⟨hx, hb, hml, hown, hts⟩ (c_clearMore l dC dI cI cJ cZ T nn fu su tu bd rA tA nm me be un mi bu cl hn h) (cwV 1 hts (w0_goodV woX1_hasLoop wd_253 wd_250 wd_251 wd_252 wd_4) rfl rfl rfl (by decide +kernel) ⟨Nat.le_of_ble_eq_true rfl, Nat.le_of_ble_eq_true rfl⟩) ⟨fun a U g mk q => by obtain ⟨q0, qP, qK⟩ := q; exact ⟨q0, qP, va_K.moved (u := U) (U := U.calling g mk a) (Vm.Alike.refl U.vm) qK⟩, va_recv hK hP (ci := 1) (q0 := 0) rfl rfl, fun U hU hW => ⟨rfl, by rw [hU]; exact hPc, va_K.moved hW.alike hK⟩⟩ rfl rfl hl.1 rfl (lv_room (Nat.le_of_ble_eq_true rfl)) dX1_hasLoop_32 ⟨Nat.zero_le _, Nat.zero_le _⟩) (fun mo hmo => ?_)
        refine lv_lstore (lv' := [(6, .long mo), (0, .ref (rA 0)), (1, .long al), (3, .long cl), (5, .int (nI way))]) hx hb dX1_hasLoop_35 hl (by decide) rfl (fun ls hl => ?_)
        refine lv_lload hx hb dX1_hasLoop_37 (lv_at hl 0 rfl) ?_
        refine lv_lload_n hx hb dX1_hasLoop_39 rfl (lv_at hl 3 rfl) ?_
        refine W.lcmp hx hb dX1_hasLoop_40 ?_
        refine lv_if_ne (tgt := 46) hx hb dX1_hasLoop_41 (by decide) (fun c3 => ?_) (fun c3 => ?_)
        · have hn2 : ¬ mo = cl := fun z => c3 ((lg_cmp_eq _ _).mpr z)
          have hg := jb_grow hmo.1 hn2
          refine lv_lload hx hb dX1_hasLoop_46 (lv_at hl 0 rfl) ?_
          refine lv_lstore_n (lv' := [(3, .long mo), (6, .long mo), (0, .ref (rA 0)), (1, .long al), (5, .int (nI way))]) hx hb dX1_hasLoop_48 rfl hl (by decide) rfl (fun ls hl => ?_)
          obtain ⟨y_1, ey_1⟩ : ∃ y : Int32, y = (nI way) + 1 := ⟨_, rfl⟩
          refine lv_iinc (v := y_1) (lv' := [(5, .int y_1), (3, .long mo), (6, .long mo), (0, .ref (rA 0)), (1, .long al)]) hx hb dX1_hasLoop_49 hl (k := 4) rfl (by rw [ey_1]; rfl) (by decide) rfl (fun ls hl => ?_)
          refine lv_goto (tgt := 17) hx hb dX1_hasLoop_52 (by decide) ?_
          rw [ey_1, nI_1] at hl
          exact ih (way + 1) mo _ (by omega) (by omega) (hmo.2.1 hs) (lv_sub hl [3, 4, 1, 0] rfl)
        · have e : mo = cl := (lg_cmp_eq _ _).mp c3
          rw [e] at hmo
          refine k1 _ ?_
          obtain ⟨x, hx, hxn⟩ : ∃ x, x < mx_n T ∧ jb cl x = false := by
            refine Classical.byContradiction fun hn3 => hne (jb_ext fun i _ => ?_)
            rw [hal i]; cases hb9 : jb cl i with
            | true => exact (decide_eq_true (hs i hb9).1).symm
            | false => exact (decide_eq_false (fun z => hn3 ⟨i, z, hb9⟩)).symm
          exact ⟨x, hx, fun q => by rw [cm_stuck hroot hmo q] at hxn; cases hxn⟩

set_option maxHeartbeats 4000000 in
set_option maxRecDepth 100000 in
/-- hasLoop: whether a term is below itself -/
theorem c_hasLoop (l : Launch) (dC : Nat → ClassId) (dI : Nat → Nat → Nat) (cI cJ cZ : ClassId) (T : mx_T) (nn : Nat → Nat) (fu : Nat → Int64) (su : Nat → Int64) (tu : Nat → Int64) (bd : Nat → Int32) (rA : Nat → Nat) (tA : Nat → Nat) (nm : Nat → Int32) (me : Nat → Int64) (be : Nat → Int64) (un : Int64) (mi : Int32) (bu : Int64) (hn : mx_n T ≤ 60) (h : rk_ok T nn nm me fu su tu be bd mi) : Met l yX1_hasLoop wsX1_hasLoop ({ frames := 1, cells := 0, slots := 0, locals := 25 }) (va_Pc [.ref (rA 0)] (fun U => va_P (dC, dI) vwCl [(rA 0, .inr (1, [.ref (tA 0), .ref (rA 1), .ref (rA 2), .ref (rA 3), .ref (rA 4), .ref (rA 5), .ref (rA 6), .ref (rA 7), .long un, .int mi])), (rA 1, .inl (cI, 60, .inl nm)), (rA 2, .inl (cJ, 60, .inr (.inl me))), (rA 6, .inl (cJ, 60, .inr (.inl be))), (tA 0, .inr (2, [.ref (tA 1), .ref (tA 2), .ref (tA 3), .ref (tA 4), .ref (tA 5), .ref (tA 6), .ref (tA 7), .ref (tA 8), .long bu, .int (nI (mx_n T))]))] U.heap ∧ va_K (dC, dI) vwCl [(cI, .int), (cJ, .long), (cZ, .boolean)] U)) (vp_Si (fun r => zb r (mx_cC T nn))) 0 0 (fun _ => False) := by
  refine Met.ofW (cc := cX1_hasLoop) (maxL := 8) (ret := (some .boolean)) (by decide) rfl ?_
  intro p e s m args below meth c s₁ B hml hv
  obtain ⟨rfl, hP, hK⟩ := hv
  have hx := B.exec
  have hb := B.bytes
  have hr := B.returns
  have hts := atoms_spec (ws := wsX1_hasLoop) B.pre
  have hown : s.vm.findClass RX1 = some m.cls := findClass_of_methodNamed B.named
  have hlocks := B.notSynchronized
  have hP : va_P (dC, dI) vwCl [(rA 0, .inr (1, [.ref (tA 0), .ref (rA 1), .ref (rA 2), .ref (rA 3), .ref (rA 4), .ref (rA 5), .ref (rA 6), .ref (rA 7), .long un, .int mi])), (rA 1, .inl (cI, 60, .inl nm)), (rA 2, .inl (cJ, 60, .inr (.inl me))), (rA 6, .inl (cJ, 60, .inr (.inl be))), (tA 0, .inr (2, [.ref (tA 1), .ref (tA 2), .ref (tA 3), .ref (tA 4), .ref (tA 5), .ref (tA 6), .ref (tA 7), .ref (tA 8), .long bu, .int (nI (mx_n T))]))] s.heap := hP
  have hl := lv_entry ([.ref (rA 0)]) (n := 8) (Nat.le_of_ble_eq_true rfl)
  rw [lg_entry_eq]
  generalize (lg_sl ([.ref (rA 0)]) ++ List.replicate (8 - (lg_sl ([.ref (rA 0)])).length) Slot.unset).toArray = ls at hl ⊢
  have hl : lv_has ls 8 [(0, .ref (rA 0))] := hl
  refine lv_lconst (v := 1) hx hb dX1_hasLoop_0 (by decide) ?_
  refine lv_aload_n hx hb dX1_hasLoop_1 rfl (lv_at hl 0 rfl) ?_
  refine va_get (D := (dC, dI)) (ci := 1) (v := .ref (tA 0)) (C := RX1) (T := TX1) (N := 10) hx hb hts (fun w h => woX1_hasLoop w (inX1 w h)) hown hK hP 0 rfl rfl 0 (by decide) (hts _ (woX1_hasLoop _ wd_108)) (fun _ h9 => h9) rfl dX1_hasLoop_2 ?_
  refine va_get (D := (dC, dI)) (ci := 2) (v := .int (nI (mx_n T))) (C := RX2) (T := TX2) (N := 10) hx hb hts (fun w h => woX1_hasLoop w (inX2 w h)) hown hK hP 4 rfl rfl 9 (by decide) (hts _ (woX1_hasLoop _ wd_54)) (fun _ h9 => h9) rfl dX1_hasLoop_5 ?_
  refine lv_lshl (v := (1 : Int64) <<< ((nI (mx_n T)).toInt64 &&& 63)) hx hb dX1_hasLoop_8 rfl ?_
  refine lv_lconst (v := 1) hx hb dX1_hasLoop_9 (by decide) ?_
  refine lv_lsub hx hb dX1_hasLoop_10 ?_
  refine lv_topl (fun al eal => ?_)
  have hal : ∀ i, jb al i = decide (i < mx_n T) := fun i => by rw [eal]; exact jb_mask (by omega) i
  refine lv_lstore_n (lv' := [(1, .long al), (0, .ref (rA 0))]) hx hb dX1_hasLoop_11 rfl hl (by decide) rfl (fun ls hl => ?_)
  refine lv_lconst (v := 0) hx hb dX1_hasLoop_12 (by decide) ?_
  refine lv_lstore_n (lv' := [(3, .long 0), (1, .long al), (0, .ref (rA 0))]) hx hb dX1_hasLoop_13 rfl hl (by decide) rfl (fun ls hl => ?_)
  refine lv_iconst (v := 0) hx hb dX1_hasLoop_14 (by decide) ?_
  refine lv_istore (lv' := [(5, .int 0), (3, .long 0), (1, .long al), (0, .ref (rA 0))]) hx hb dX1_hasLoop_15 hl (by decide) rfl (fun ls hl => ?_)
  refine hl_loop hx hb hown hts hK hn h hal hP hml (fun ls hq => ?_) (fun ls hq => ?_) 61 0 0 _ (by omega) (by omega) (fun x hx => by rw [jb_0] at hx; cases hx) (lv_sub hl [3, 2, 1, 0] rfl)
  · refine lv_iconst (v := 0) hx hb dX1_hasLoop_55 (by decide) ?_
    exact W.zret (v := 0) hx hb hr rfl (fun t9 ht9 _ => ⟨_, rfl, Or.inr ⟨rfl, hq⟩, ht9⟩) (fun q h => by cases h) dX1_hasLoop_56
  · refine lv_iconst (v := 1) hx hb dX1_hasLoop_44 (by decide) ?_
    exact W.zret (v := 1) hx hb hr rfl (fun t9 ht9 _ => ⟨_, rfl, Or.inl ⟨rfl, hq⟩, ht9⟩) (fun q h => by cases h) dX1_hasLoop_45

set_option maxHeartbeats 4000000 in
set_option maxRecDepth 100000 in
theorem ob_loop {p : Program} {l : Launch} {e : Env} {s : State} {m : MethodId} {args : Array Value} {below : List Frame} {meth : Method} {c : Code} {Q : State → Prop} (hx : p.tables.exec = Jvm.exec) (hb : c.code = cX3_isOtherBroken) (hown : s.vm.findClass RX3 = some m.cls) (hts : ∀ w ∈ wsX3_isOtherBroken, w.before args s = true) {dC : Nat → ClassId} {dI : Nat → Nat → Nat} {cI cJ cZ : ClassId} (hK : va_K (dC, dI) vwCl [(cI, .int), (cJ, .long), (cZ, .boolean)] s) {T : mx_T} {F : mx_F} {o : Nat} {fA : Nat → Nat} {pA : Nat → Nat} {rA : Nat → Nat} {tA : Nat → Nat} {nm : Nat → Int32} {un : Int64} {mi : Int32} {fl : Nat → Int32} {fr : Nat → Int32} {fs : Nat → Int32} {nn : Nat → Nat} {set : Int64} (hn : mx_n T ≤ 60) (hnm : ∀ t, t < mx_n T → nm t = nI (nn t) ∧ nn t < 60) (hfk : fk_ok T F fl fr fs) {H : Heap} {locs : List Loc} (hP : va_P (dC, dI) vwCl [(o, .inr (3, [.ref (tA 0), .ref (fA 0), .ref (pA 0), .ref (rA 0)])), (fA 0, .inr (0, [.ref (fA 1), .ref (fA 2), .ref (fA 3), .int (nI (mx_m F))])), (fA 1, .inl (cI, 40, .inl fl)), (fA 2, .inl (cI, 40, .inl fr)), (fA 3, .inl (cZ, 40, .inl fs)), (rA 0, .inr (1, [.ref (tA 0), .ref (rA 1), .ref (rA 2), .ref (rA 3), .ref (rA 4), .ref (rA 5), .ref (rA 6), .ref (rA 7), .long un, .int mi])), (rA 1, .inl (cI, 60, .inl nm))] H) (hml : c.maxLocals = 4) (k0 : ∀ (ls : Array Slot), ¬ mx_cB F (jb set) nn → W p l e ({ frames := 1, cells := 0, slots := 0, locals := 22 }) s m args below meth c H locs 0 0 Q (F0 m 71 ls [])) (k1 : ∀ (ls : Array Slot), mx_cB F (jb set) nn → W p l e ({ frames := 1, cells := 0, slots := 0, locals := 22 }) s m args below meth c H locs 0 0 Q (F0 m 63 ls [])) : ∀ (k f : Nat) (ls : Array Slot), f + k = mx_m F → (∀ g, g < f → mx_sm F g = false → jb set g = true → ¬ nn (mx_lf F g) = nn (mx_rt F g)) → lv_has ls 4 [(0, .ref o), (1, .long set), (3, .int (nI f))] → W p l e ({ frames := 1, cells := 0, slots := 0, locals := 22 }) s m args below meth c H locs 0 0 Q (F0 m 2 ls []) := by
  have hm := hfk.1
  intro k
  induction k with
  | zero =>
    intro f ls hk hI hl
    refine lv_iload_n hx hb dX3_isOtherBroken_2 rfl (lv_at hl 2 rfl) ?_
    refine lv_aload_n hx hb dX3_isOtherBroken_3 rfl (lv_at hl 0 rfl) ?_
    refine va_get (D := (dC, dI)) (ci := 3) (v := .ref (fA 0)) (C := RX3) (T := TX3) (N := 4) hx hb hts (fun w h => woX3_isOtherBroken w (inX3 w h)) hown hK hP 0 rfl rfl 1 (by decide) (hts _ (woX3_isOtherBroken _ wd_143)) (fun _ h9 => h9) rfl dX3_isOtherBroken_4 ?_
    refine va_get (D := (dC, dI)) (ci := 0) (v := .int (nI (mx_m F))) (C := RX0) (T := TX0) (N := 4) hx hb hts (fun w h => woX3_isOtherBroken w (inX0 w h)) hown hK hP 1 rfl rfl 3 (by decide) (hts _ (woX3_isOtherBroken _ wd_92)) (fun _ h9 => h9) rfl dX3_isOtherBroken_7 ?_
    refine lv_icmp_ge (tgt := 71) hx hb dX3_isOtherBroken_10 (by decide) (fun c1 => ?_) (fun c1 => ?_)
    · exact k0 _ (fun ⟨g, g1, g2, g3, g4⟩ => hI g (by omega) g2 g3 g4)
    · exact absurd (nI_le (by omega) (by omega)) c1
  | succ k ih =>
    intro f ls hk hI hl
    have hf : f < mx_m F := by omega
    obtain ⟨e1, e2, e3, e4, e5⟩ := hfk.2 f hf
    refine lv_iload_n hx hb dX3_isOtherBroken_2 rfl (lv_at hl 2 rfl) ?_
    refine lv_aload_n hx hb dX3_isOtherBroken_3 rfl (lv_at hl 0 rfl) ?_
    refine va_get (D := (dC, dI)) (ci := 3) (v := .ref (fA 0)) (C := RX3) (T := TX3) (N := 4) hx hb hts (fun w h => woX3_isOtherBroken w (inX3 w h)) hown hK hP 0 rfl rfl 1 (by decide) (hts _ (woX3_isOtherBroken _ wd_143)) (fun _ h9 => h9) rfl dX3_isOtherBroken_4 ?_
    refine va_get (D := (dC, dI)) (ci := 0) (v := .int (nI (mx_m F))) (C := RX0) (T := TX0) (N := 4) hx hb hts (fun w h => woX3_isOtherBroken w (inX0 w h)) hown hK hP 1 rfl rfl 3 (by decide) (hts _ (woX3_isOtherBroken _ wd_92)) (fun _ h9 => h9) rfl dX3_isOtherBroken_7 ?_
    refine lv_icmp_ge (tgt := 71) hx hb dX3_isOtherBroken_10 (by decide) (fun c1 => ?_) (fun c1 => ?_)
    · exact absurd c1 (nI_ge hf (by omega))
    · refine lv_aload_n hx hb dX3_isOtherBroken_13 rfl (lv_at hl 0 rfl) ?_
      refine va_get (D := (dC, dI)) (ci := 3) (v := .ref (fA 0)) (C := RX3) (T := TX3) (N := 4) hx hb hts (fun w h => woX3_isOtherBroken w (inX3 w h)) hown hK hP 0 rfl rfl 1 (by decide) (hts _ (woX3_isOtherBroken _ wd_143)) (fun _ h9 => h9) rfl dX3_isOtherBroken_14 ?_
      refine va_get (D := (dC, dI)) (ci := 0) (v := .ref (fA 3)) (C := RX0) (T := TX0) (N := 4) hx hb hts (fun w h => woX3_isOtherBroken w (inX0 w h)) hown hK hP 1 rfl rfl 2 (by decide) (hts _ (woX3_isOtherBroken _ wd_90)) (fun _ h9 => h9) rfl dX3_isOtherBroken_17 ?_
      refine lv_iload_n hx hb dX3_isOtherBroken_20 rfl (lv_at hl 2 rfl) ?_
      refine va_zald hx hb hK hP 4 2 rfl rfl (vp_in_nI (by omega) (by omega)) dX3_isOtherBroken_21 ?_
      rw [show (nI f).toNatClampNeg = f from nI_clamp (by omega)]
      refine lv_if_ne (tgt := 65) hx hb dX3_isOtherBroken_22 (by decide) (fun c2 => ?_) (fun c2 => ?_)
      · have hs : mx_sm F f = true := by cases q : mx_sm F f with | true => rfl | false => rw [q] at e5; exact absurd e5 c2
        obtain ⟨y_1, ey_1⟩ : ∃ y : Int32, y = (nI f) + 1 := ⟨_, rfl⟩
        refine lv_iinc (v := y_1) (lv' := [(3, .int y_1), (0, .ref o), (1, .long set)]) hx hb dX3_isOtherBroken_65 hl (k := 2) rfl (by rw [ey_1]; rfl) (by decide) rfl (fun ls hl => ?_)
        refine lv_goto (tgt := 2) hx hb dX3_isOtherBroken_68 (by decide) ?_
        rw [ey_1, nI_1] at hl
        refine ih (f + 1) _ (by omega) (fun g hg => ?_) (lv_sub hl [1, 2, 0] rfl)
        rcases (show g < f ∨ g = f by omega) with z | rfl
        · exact hI g z
        · exact fun z1 => by rw [hs] at z1; cases z1
      · have hs : mx_sm F f = false := by cases q : mx_sm F f with | false => rfl | true => rw [q, if_pos rfl] at e5; rw [e5] at c2; exact absurd c2 (by decide)
        refine lv_lload_n hx hb dX3_isOtherBroken_25 rfl (lv_at hl 1 rfl) ?_
        refine lv_iload_n hx hb dX3_isOtherBroken_26 rfl (lv_at hl 2 rfl) ?_
        refine lv_lshr (v := set >>> ((nI f).toInt64 &&& 63)) hx hb dX3_isOtherBroken_27 rfl ?_
        refine lv_lconst (v := 1) hx hb dX3_isOtherBroken_28 (by decide) ?_
        refine lv_land hx hb dX3_isOtherBroken_29 ?_
        refine lv_lconst (v := 0) hx hb dX3_isOtherBroken_30 (by decide) ?_
        refine W.lcmp hx hb dX3_isOtherBroken_31 ?_
        refine lv_if_eq (tgt := 65) hx hb dX3_isOtherBroken_32 (by decide) (fun c3 => ?_) (fun c3 => ?_)
        · have hb2 : jb set f = false := (jb_tst (by omega)).mp (lc_0.mp c3)
          obtain ⟨y_2, ey_2⟩ : ∃ y : Int32, y = (nI f) + 1 := ⟨_, rfl⟩
          refine lv_iinc (v := y_2) (lv' := [(3, .int y_2), (0, .ref o), (1, .long set)]) hx hb dX3_isOtherBroken_65 hl (k := 2) rfl (by rw [ey_2]; rfl) (by decide) rfl (fun ls hl => ?_)
          refine lv_goto (tgt := 2) hx hb dX3_isOtherBroken_68 (by decide) ?_
          rw [ey_2, nI_1] at hl
          refine ih (f + 1) _ (by omega) (fun g hg => ?_) (lv_sub hl [1, 2, 0] rfl)
          rcases (show g < f ∨ g = f by omega) with z | rfl
          · exact hI g z
          · exact fun _ z2 => by rw [hb2] at z2; cases z2
        · have hb2 : jb set f = true := by cases q : jb set f with | true => rfl | false => exact absurd (lc_0.mpr ((jb_tst (by omega)).mpr q)) c3
          refine lv_aload_n hx hb dX3_isOtherBroken_35 rfl (lv_at hl 0 rfl) ?_
          refine va_get (D := (dC, dI)) (ci := 3) (v := .ref (rA 0)) (C := RX3) (T := TX3) (N := 4) hx hb hts (fun w h => woX3_isOtherBroken w (inX3 w h)) hown hK hP 0 rfl rfl 3 (by decide) (hts _ (woX3_isOtherBroken _ wd_145)) (fun _ h9 => h9) rfl dX3_isOtherBroken_36 ?_
          refine lv_aload_n hx hb dX3_isOtherBroken_39 rfl (lv_at hl 0 rfl) ?_
          refine va_get (D := (dC, dI)) (ci := 3) (v := .ref (fA 0)) (C := RX3) (T := TX3) (N := 4) hx hb hts (fun w h => woX3_isOtherBroken w (inX3 w h)) hown hK hP 0 rfl rfl 1 (by decide) (hts _ (woX3_isOtherBroken _ wd_143)) (fun _ h9 => h9) rfl dX3_isOtherBroken_40 ?_
          refine va_get (D := (dC, dI)) (ci := 0) (v := .ref (fA 1)) (C := RX0) (T := TX0) (N := 4) hx hb hts (fun w h => woX3_isOtherBroken w (inX0 w h)) hown hK hP 1 rfl rfl 0 (by decide) (hts _ (woX3_isOtherBroken _ wd_86)) (fun _ h9 => h9) rfl dX3_isOtherBroken_43 ?_
          refine lv_iload_n hx hb dX3_isOtherBroken_46 rfl (lv_at hl 2 rfl) ?_
          refine va_iald hx hb hK hP 2 0 rfl rfl (vp_in_nI (by omega) (by omega)) dX3_isOtherBroken_47 ?_
          rw [show (nI f).toNatClampNeg = f from nI_clamp (by omega)]
          rw [e1]
          refine lv_aload_n hx hb dX3_isOtherBroken_48 rfl (lv_at hl 0 rfl) ?_
          refine va_get (D := (dC, dI)) (ci := 3) (v := .ref (fA 0)) (C := RX3) (T := TX3) (N := 4) hx hb hts (fun w h => woX3_isOtherBroken w (inX3 w h)) hown hK hP 0 rfl rfl 1 (by decide) (hts _ (woX3_isOtherBroken _ wd_143)) (fun _ h9 => h9) rfl dX3_isOtherBroken_49 ?_
          refine va_get (D := (dC, dI)) (ci := 0) (v := .ref (fA 2)) (C := RX0) (T := TX0) (N := 4) hx hb hts (fun w h => woX3_isOtherBroken w (inX0 w h)) hown hK hP 1 rfl rfl 1 (by decide) (hts _ (woX3_isOtherBroken _ wd_88)) (fun _ h9 => h9) rfl dX3_isOtherBroken_52 ?_
          refine lv_iload_n hx hb dX3_isOtherBroken_55 rfl (lv_at hl 2 rfl) ?_
          refine va_iald hx hb hK hP 3 0 rfl rfl (vp_in_nI (by omega) (by omega)) dX3_isOtherBroken_56 ?_
          rw [show (nI f).toNatClampNeg = f from nI_clamp (by omega)]
          rw [e2]
          have hPc := hP.sub (ws' := [(rA 0, .inr (1, [.ref (tA 0), .ref (rA 1), .ref (rA 2), .ref (rA 3), .ref (rA 4), .ref (rA 5), .ref (rA 6), .ref (rA 7), .long un, .int mi])), (rA 1, .inl (cI, 60, .inl nm))]) [5, 6] rfl
          refine vp_callSi (W.runV (As := [.int (nI (mx_lf F f)), .int (nI (mx_rt F f))]) (rest := []) ⟨hx, hb, hml, hown, hts⟩ (c_areOne l dC dI cI cJ cZ rA tA nm un mi (mx_lf F f) (mx_rt F f) (by omega) (by omega)) (cwV 2 hts (w0_goodV woX3_isOtherBroken wd_199 wd_245 wd_197 wd_198 wd_4) rfl rfl rfl (by decide +kernel) ⟨Nat.le_of_ble_eq_true rfl, Nat.le_of_ble_eq_true rfl⟩) ⟨fun a U g mk q => by obtain ⟨q0, qP, qK⟩ := q; exact ⟨q0, qP, va_K.moved (u := U) (U := U.calling g mk a) (Vm.Alike.refl U.vm) qK⟩, va_recv hK hP (ci := 1) (q0 := 5) rfl rfl, fun U hU hW => ⟨rfl, by rw [hU]; exact hPc, va_K.moved hW.alike hK⟩⟩ rfl rfl hl.1 rfl (lv_room (Nat.le_of_ble_eq_true rfl)) dX3_isOtherBroken_57 ⟨Nat.zero_le _, Nat.zero_le _⟩) (fun r hr1 => ?_)
          have hab : nm (mx_lf F f) = nm (mx_rt F f) ↔ nn (mx_lf F f) = nn (mx_rt F f) := by rw [(hnm _ e3).1, (hnm _ e4).1]; exact nI_eq (Nat.lt_trans (hnm _ e3).2 (by omega)) (Nat.lt_trans (hnm _ e4).2 (by omega))
          refine lv_if_eq (tgt := 65) hx hb dX3_isOtherBroken_60 (by decide) (fun c4 => ?_) (fun c4 => ?_)
          · have hno := fun z => zb_f hr1 c4 (hab.mpr z)
            obtain ⟨y_3, ey_3⟩ : ∃ y : Int32, y = (nI f) + 1 := ⟨_, rfl⟩
            refine lv_iinc (v := y_3) (lv' := [(3, .int y_3), (0, .ref o), (1, .long set)]) hx hb dX3_isOtherBroken_65 hl (k := 2) rfl (by rw [ey_3]; rfl) (by decide) rfl (fun ls hl => ?_)
            refine lv_goto (tgt := 2) hx hb dX3_isOtherBroken_68 (by decide) ?_
            rw [ey_3, nI_1] at hl
            refine ih (f + 1) _ (by omega) (fun g hg => ?_) (lv_sub hl [1, 2, 0] rfl)
            rcases (show g < f ∨ g = f by omega) with z | rfl
            · exact hI g z
            · exact fun _ _ => hno
          · exact k1 _ ⟨f, hf, hs, hb2, hab.mp (zb_t hr1 c4)⟩

set_option maxHeartbeats 4000000 in
set_option maxRecDepth 100000 in
/-- isOtherBroken -/
theorem c_isOtherBroken (l : Launch) (dC : Nat → ClassId) (dI : Nat → Nat → Nat) (cI cJ cZ : ClassId) (T : mx_T) (F : mx_F) (o : Nat) (fA : Nat → Nat) (pA : Nat → Nat) (rA : Nat → Nat) (tA : Nat → Nat) (nm : Nat → Int32) (un : Int64) (mi : Int32) (fl : Nat → Int32) (fr : Nat → Int32) (fs : Nat → Int32) (nn : Nat → Nat) (set : Int64) (hn : mx_n T ≤ 60) (hnm : ∀ t, t < mx_n T → nm t = nI (nn t) ∧ nn t < 60) (hfk : fk_ok T F fl fr fs) : Met l yX3_isOtherBroken wsX3_isOtherBroken ({ frames := 1, cells := 0, slots := 0, locals := 22 }) (va_Pc [.ref o, .long set] (fun U => va_P (dC, dI) vwCl [(o, .inr (3, [.ref (tA 0), .ref (fA 0), .ref (pA 0), .ref (rA 0)])), (fA 0, .inr (0, [.ref (fA 1), .ref (fA 2), .ref (fA 3), .int (nI (mx_m F))])), (fA 1, .inl (cI, 40, .inl fl)), (fA 2, .inl (cI, 40, .inl fr)), (fA 3, .inl (cZ, 40, .inl fs)), (rA 0, .inr (1, [.ref (tA 0), .ref (rA 1), .ref (rA 2), .ref (rA 3), .ref (rA 4), .ref (rA 5), .ref (rA 6), .ref (rA 7), .long un, .int mi])), (rA 1, .inl (cI, 60, .inl nm))] U.heap ∧ va_K (dC, dI) vwCl [(cI, .int), (cJ, .long), (cZ, .boolean)] U)) (vp_Si (fun r => zb r (mx_cB F (jb set) nn))) 0 0 (fun _ => False) := by
  refine Met.ofW (cc := cX3_isOtherBroken) (maxL := 4) (ret := (some .boolean)) (by decide) rfl ?_
  intro p e s m args below meth c s₁ B hml hv
  obtain ⟨rfl, hP, hK⟩ := hv
  have hx := B.exec
  have hb := B.bytes
  have hr := B.returns
  have hts := atoms_spec (ws := wsX3_isOtherBroken) B.pre
  have hown : s.vm.findClass RX3 = some m.cls := findClass_of_methodNamed B.named
  have hlocks := B.notSynchronized
  have hP : va_P (dC, dI) vwCl [(o, .inr (3, [.ref (tA 0), .ref (fA 0), .ref (pA 0), .ref (rA 0)])), (fA 0, .inr (0, [.ref (fA 1), .ref (fA 2), .ref (fA 3), .int (nI (mx_m F))])), (fA 1, .inl (cI, 40, .inl fl)), (fA 2, .inl (cI, 40, .inl fr)), (fA 3, .inl (cZ, 40, .inl fs)), (rA 0, .inr (1, [.ref (tA 0), .ref (rA 1), .ref (rA 2), .ref (rA 3), .ref (rA 4), .ref (rA 5), .ref (rA 6), .ref (rA 7), .long un, .int mi])), (rA 1, .inl (cI, 60, .inl nm))] s.heap := hP
  have hl := lv_entry ([.ref o, .long set]) (n := 4) (Nat.le_of_ble_eq_true rfl)
  rw [lg_entry_eq]
  generalize (lg_sl ([.ref o, .long set]) ++ List.replicate (4 - (lg_sl ([.ref o, .long set])).length) Slot.unset).toArray = ls at hl ⊢
  have hl : lv_has ls 4 [(0, .ref o), (1, .long set)] := hl
  refine lv_iconst (v := 0) hx hb dX3_isOtherBroken_0 (by decide) ?_
  refine lv_istore_n (lv' := [(3, .int 0), (0, .ref o), (1, .long set)]) hx hb dX3_isOtherBroken_1 rfl hl (by decide) rfl (fun ls hl => ?_)
  refine ob_loop hx hb hown hts hK hn hnm hfk hP hml (fun ls hq => ?_) (fun ls hq => ?_) (mx_m F) 0 _ (by omega) (fun g hg => absurd hg (Nat.not_lt_zero g)) (lv_sub hl [1, 2, 0] rfl)
  · refine lv_iconst (v := 0) hx hb dX3_isOtherBroken_71 (by decide) ?_
    exact W.zret (v := 0) hx hb hr rfl (fun t9 ht9 _ => ⟨_, rfl, Or.inr ⟨rfl, hq⟩, ht9⟩) (fun q h => by cases h) dX3_isOtherBroken_72
  · refine lv_iconst (v := 1) hx hb dX3_isOtherBroken_63 (by decide) ?_
    exact W.zret (v := 1) hx hb hr rfl (fun t9 ht9 _ => ⟨_, rfl, Or.inl ⟨rfl, hq⟩, ht9⟩) (fun q h => by cases h) dX3_isOtherBroken_64

set_option maxHeartbeats 4000000 in
set_option maxRecDepth 100000 in
/-- isBroken: whether the rows clash -/
theorem c_isBroken (l : Launch) (dC : Nat → ClassId) (dI : Nat → Nat → Nat) (cI cJ cZ : ClassId) (T : mx_T) (F : mx_F) (o : Nat) (fA : Nat → Nat) (pA : Nat → Nat) (rA : Nat → Nat) (tA : Nat → Nat) (nm : Nat → Int32) (me : Nat → Int64) (be : Nat → Int64) (un : Int64) (mi : Int32) (bu : Int64) (fl : Nat → Int32) (fr : Nat → Int32) (fs : Nat → Int32) (nn : Nat → Nat) (fu : Nat → Int64) (su : Nat → Int64) (tu : Nat → Int64) (bd : Nat → Int32) (set : Int64) (hn : mx_n T ≤ 60) (h : rk_ok T nn nm me fu su tu be bd mi) (hfk : fk_ok T F fl fr fs) : Met l yX3_isBroken wsX3_isBroken ({ frames := 2, cells := 0, slots := 0, locals := 52 }) (va_Pc [.ref o, .long set] (fun U => va_P (dC, dI) vwCl [(o, .inr (3, [.ref (tA 0), .ref (fA 0), .ref (pA 0), .ref (rA 0)])), (fA 0, .inr (0, [.ref (fA 1), .ref (fA 2), .ref (fA 3), .int (nI (mx_m F))])), (fA 1, .inl (cI, 40, .inl fl)), (fA 2, .inl (cI, 40, .inl fr)), (fA 3, .inl (cZ, 40, .inl fs)), (rA 0, .inr (1, [.ref (tA 0), .ref (rA 1), .ref (rA 2), .ref (rA 3), .ref (rA 4), .ref (rA 5), .ref (rA 6), .ref (rA 7), .long un, .int mi])), (rA 1, .inl (cI, 60, .inl nm)), (rA 2, .inl (cJ, 60, .inr (.inl me))), (rA 6, .inl (cJ, 60, .inr (.inl be))), (tA 0, .inr (2, [.ref (tA 1), .ref (tA 2), .ref (tA 3), .ref (tA 4), .ref (tA 5), .ref (tA 6), .ref (tA 7), .ref (tA 8), .long bu, .int (nI (mx_n T))]))] U.heap ∧ va_K (dC, dI) vwCl [(cI, .int), (cJ, .long), (cZ, .boolean)] U)) (vp_Si (fun r => zb r (mx_clash T F (jb set) nn))) 0 0 (fun _ => False) := by
  refine Met.ofW (cc := cX3_isBroken) (maxL := 3) (ret := (some .boolean)) (by decide) rfl ?_
  intro p e s m args below meth c s₁ B hml hv
  obtain ⟨rfl, hP, hK⟩ := hv
  have hx := B.exec
  have hb := B.bytes
  have hr := B.returns
  have hts := atoms_spec (ws := wsX3_isBroken) B.pre
  have hown : s.vm.findClass RX3 = some m.cls := findClass_of_methodNamed B.named
  have hlocks := B.notSynchronized
  have hP : va_P (dC, dI) vwCl [(o, .inr (3, [.ref (tA 0), .ref (fA 0), .ref (pA 0), .ref (rA 0)])), (fA 0, .inr (0, [.ref (fA 1), .ref (fA 2), .ref (fA 3), .int (nI (mx_m F))])), (fA 1, .inl (cI, 40, .inl fl)), (fA 2, .inl (cI, 40, .inl fr)), (fA 3, .inl (cZ, 40, .inl fs)), (rA 0, .inr (1, [.ref (tA 0), .ref (rA 1), .ref (rA 2), .ref (rA 3), .ref (rA 4), .ref (rA 5), .ref (rA 6), .ref (rA 7), .long un, .int mi])), (rA 1, .inl (cI, 60, .inl nm)), (rA 2, .inl (cJ, 60, .inr (.inl me))), (rA 6, .inl (cJ, 60, .inr (.inl be))), (tA 0, .inr (2, [.ref (tA 1), .ref (tA 2), .ref (tA 3), .ref (tA 4), .ref (tA 5), .ref (tA 6), .ref (tA 7), .ref (tA 8), .long bu, .int (nI (mx_n T))]))] s.heap := hP
  have hl := lv_entry ([.ref o, .long set]) (n := 3) (Nat.le_of_ble_eq_true rfl)
  rw [lg_entry_eq]
  generalize (lg_sl ([.ref o, .long set]) ++ List.replicate (3 - (lg_sl ([.ref o, .long set])).length) Slot.unset).toArray = ls at hl ⊢
  have hl : lv_has ls 3 [(0, .ref o), (1, .long set)] := hl
  have hnm : ∀ t, t < mx_n T → nm t = nI (nn t) ∧ nn t < 60 := fun t ht => ⟨h.1 t ht, Nat.lt_of_lt_of_le (h.2.choose_spec.choose_spec.1.1 t ht).1 hn⟩
  have hmix : (mi = 0 → ¬ mx_cA T nn) ∧ (¬ mi = 0 → mx_cA T nn) := by
    obtain ⟨-, b, mixed, r, -, d⟩ := h
    cases mixed with
    | false => exact ⟨fun _ ⟨t, u, a1, a2, a3, a4, a5, a6⟩ => a6 (r.2.2.2.2.2.1 rfl t u a1 a2 a3 a4 a5), fun z => absurd d z⟩
    | true => exact ⟨fun z => by rw [z] at d; exact absurd d (by decide), fun _ => r.2.2.2.2.2.2 rfl⟩
  refine lv_aload_n hx hb dX3_isBroken_0 rfl (lv_at hl 0 rfl) ?_
  refine va_get (D := (dC, dI)) (ci := 3) (v := .ref (rA 0)) (C := RX3) (T := TX3) (N := 4) hx hb hts (fun w h => woX3_isBroken w (inX3 w h)) hown hK hP 0 rfl rfl 3 (by decide) (hts _ (woX3_isBroken _ wd_145)) (fun _ h9 => h9) rfl dX3_isBroken_1 ?_
  refine va_get (D := (dC, dI)) (ci := 1) (v := .int mi) (C := RX1) (T := TX1) (N := 10) hx hb hts (fun w h => woX3_isBroken w (inX1 w h)) hown hK hP 5 rfl rfl 9 (by decide) (hts _ (woX3_isBroken _ wd_120)) (fun _ h9 => h9) rfl dX3_isBroken_4 ?_
  refine lv_if_ne (tgt := 28) hx hb dX3_isBroken_7 (by decide) (fun c1 => ?_) (fun c1 => ?_)
  · refine lv_iconst (v := 1) hx hb dX3_isBroken_28 (by decide) ?_
    refine lv_goto (tgt := 33) hx hb dX3_isBroken_29 (by decide) ?_
    exact W.zret (v := 1) hx hb hr rfl (fun t9 ht9 _ => ⟨_, rfl, Or.inl ⟨rfl, Or.inl (hmix.2 c1)⟩, ht9⟩) (fun q h => by cases h) dX3_isBroken_33
  · refine lv_aload_n hx hb dX3_isBroken_10 rfl (lv_at hl 0 rfl) ?_
    refine lv_lload_n hx hb dX3_isBroken_11 rfl (lv_at hl 1 rfl) ?_
    have hPc := hP.sub (ws' := [(o, .inr (3, [.ref (tA 0), .ref (fA 0), .ref (pA 0), .ref (rA 0)])), (fA 0, .inr (0, [.ref (fA 1), .ref (fA 2), .ref (fA 3), .int (nI (mx_m F))])), (fA 1, .inl (cI, 40, .inl fl)), (fA 2, .inl (cI, 40, .inl fr)), (fA 3, .inl (cZ, 40, .inl fs)), (rA 0, .inr (1, [.ref (tA 0), .ref (rA 1), .ref (rA 2), .ref (rA 3), .ref (rA 4), .ref (rA 5), .ref (rA 6), .ref (rA 7), .long un, .int mi])), (rA 1, .inl (cI, 60, .inl nm))]) [0, 1, 2, 3, 4, 5, 6] rfl
    refine vp_callSi (W.runV (As := [.long set]) (rest := []) ⟨hx, hb, hml, hown, hts⟩ (c_isOtherBroken l dC dI cI cJ cZ T F o fA pA rA tA nm un mi fl fr fs nn set hn hnm hfk) (cwV 1 hts (w0_goodV woX3_isBroken wd_244 wd_241 wd_243 ws_3 wd_1) rfl rfl rfl (by decide +kernel) ⟨Nat.le_of_ble_eq_true rfl, Nat.le_of_ble_eq_true rfl⟩) ⟨fun a U g mk q => by obtain ⟨q0, qP, qK⟩ := q; exact ⟨q0, qP, va_K.moved (u := U) (U := U.calling g mk a) (Vm.Alike.refl U.vm) qK⟩, va_recv hK hP (ci := 3) (q0 := 0) rfl rfl, fun U hU hW => ⟨rfl, by rw [hU]; exact hPc, va_K.moved hW.alike hK⟩⟩ rfl rfl hl.1 rfl (lv_room (Nat.le_of_ble_eq_true rfl)) dX3_isBroken_12 ⟨Nat.zero_le _, Nat.zero_le _⟩) (fun r1 hr1 => ?_)
    refine lv_if_ne (tgt := 28) hx hb dX3_isBroken_15 (by decide) (fun c2 => ?_) (fun c2 => ?_)
    · refine lv_iconst (v := 1) hx hb dX3_isBroken_28 (by decide) ?_
      refine lv_goto (tgt := 33) hx hb dX3_isBroken_29 (by decide) ?_
      exact W.zret (v := 1) hx hb hr rfl (fun t9 ht9 _ => ⟨_, rfl, Or.inl ⟨rfl, Or.inr (Or.inl (zb_t hr1 c2))⟩, ht9⟩) (fun q h => by cases h) dX3_isBroken_33
    · refine lv_aload_n hx hb dX3_isBroken_18 rfl (lv_at hl 0 rfl) ?_
      refine va_get (D := (dC, dI)) (ci := 3) (v := .ref (rA 0)) (C := RX3) (T := TX3) (N := 4) hx hb hts (fun w h => woX3_isBroken w (inX3 w h)) hown hK hP 0 rfl rfl 3 (by decide) (hts _ (woX3_isBroken _ wd_145)) (fun _ h9 => h9) rfl dX3_isBroken_19 ?_
      have hPc := hP.sub (ws' := [(rA 0, .inr (1, [.ref (tA 0), .ref (rA 1), .ref (rA 2), .ref (rA 3), .ref (rA 4), .ref (rA 5), .ref (rA 6), .ref (rA 7), .long un, .int mi])), (rA 1, .inl (cI, 60, .inl nm)), (rA 2, .inl (cJ, 60, .inr (.inl me))), (rA 6, .inl (cJ, 60, .inr (.inl be))), (tA 0, .inr (2, [.ref (tA 1), .ref (tA 2), .ref (tA 3), .ref (tA 4), .ref (tA 5), .ref (tA 6), .ref (tA 7), .ref (tA 8), .long bu, .int (nI (mx_n T))]))]) [5, 6, 7, 8, 9] rfl
      refine vp_callSi (W.runV (As := []) (rest := []) ⟨hx, hb, hml, hown, hts⟩ (c_hasLoop l dC dI cI cJ cZ T nn fu su tu bd rA tA nm me be un mi bu hn h) (cwV 0 hts (w0_goodV woX3_isBroken wd_249 wd_246 wd_247 wd_248 wd_4) rfl rfl rfl (by decide +kernel) ⟨Nat.le_of_ble_eq_true rfl, Nat.le_of_ble_eq_true rfl⟩) ⟨fun a U g mk q => by obtain ⟨q0, qP, qK⟩ := q; exact ⟨q0, qP, va_K.moved (u := U) (U := U.calling g mk a) (Vm.Alike.refl U.vm) qK⟩, va_recv hK hP (ci := 1) (q0 := 5) rfl rfl, fun U hU hW => ⟨rfl, by rw [hU]; exact hPc, va_K.moved hW.alike hK⟩⟩ rfl rfl hl.1 rfl (lv_room (Nat.le_of_ble_eq_true rfl)) dX3_isBroken_22 ⟨Nat.zero_le _, Nat.zero_le _⟩) (fun r2 hr2 => ?_)
      refine lv_if_eq (tgt := 32) hx hb dX3_isBroken_25 (by decide) (fun c3 => ?_) (fun c3 => ?_)
      · refine lv_iconst (v := 0) hx hb dX3_isBroken_32 (by decide) ?_
        exact W.zret (v := 0) hx hb hr rfl (fun t9 ht9 _ => ⟨_, rfl, Or.inr ⟨rfl, fun q => q.elim (hmix.1 c1) (fun q => q.elim (zb_f hr1 c2) (zb_f hr2 c3))⟩, ht9⟩) (fun q h => by cases h) dX3_isBroken_33
      · refine lv_iconst (v := 1) hx hb dX3_isBroken_28 (by decide) ?_
        refine lv_goto (tgt := 33) hx hb dX3_isBroken_29 (by decide) ?_
        exact W.zret (v := 1) hx hb hr rfl (fun t9 ht9 _ => ⟨_, rfl, Or.inl ⟨rfl, Or.inr (Or.inr (zb_t hr2 c3))⟩, ht9⟩) (fun q h => by cases h) dX3_isBroken_33

def qe_a : Option (Nat × Nat) → Int32
  | none => -1
  | some (a, _) => nI a
def qe_b : Option (Nat × Nat) → Int32
  | none => -1
  | some (_, b) => nI b

set_option maxHeartbeats 4000000 in
set_option maxRecDepth 100000 in
/-- isReached -/
theorem c_isReached (l : Launch) (dC : Nat → ClassId) (dI : Nat → Nat → Nat) (cI cJ cZ : ClassId) (T : mx_T) (F : mx_F) (o : Nat) (fA : Nat → Nat) (pA : Nat → Nat) (rA : Nat → Nat) (tA : Nat → Nat) (nm : Nat → Int32) (me : Nat → Int64) (be : Nat → Int64) (un : Int64) (mi : Int32) (bu : Int64) (fl : Nat → Int32) (fr : Nat → Int32) (fs : Nat → Int32) (nn : Nat → Nat) (fu : Nat → Int64) (su : Nat → Int64) (tu : Nat → Int64) (bd : Nat → Int32) (set : Int64) (q : Option (Nat × Nat)) (hn : mx_n T ≤ 60) (h : rk_ok T nn nm me fu su tu be bd mi) (hfk : fk_ok T F fl fr fs) (hq : rq_in T q) : Met l yX3_isReached wsX3_isReached ({ frames := 3, cells := 0, slots := 0, locals := 74 }) (va_Pc [.ref o, .long set, .int (qe_a q), .int (qe_b q)] (fun U => va_P (dC, dI) vwCl [(o, .inr (3, [.ref (tA 0), .ref (fA 0), .ref (pA 0), .ref (rA 0)])), (fA 0, .inr (0, [.ref (fA 1), .ref (fA 2), .ref (fA 3), .int (nI (mx_m F))])), (fA 1, .inl (cI, 40, .inl fl)), (fA 2, .inl (cI, 40, .inl fr)), (fA 3, .inl (cZ, 40, .inl fs)), (rA 0, .inr (1, [.ref (tA 0), .ref (rA 1), .ref (rA 2), .ref (rA 3), .ref (rA 4), .ref (rA 5), .ref (rA 6), .ref (rA 7), .long un, .int mi])), (rA 1, .inl (cI, 60, .inl nm)), (rA 2, .inl (cJ, 60, .inr (.inl me))), (rA 6, .inl (cJ, 60, .inr (.inl be))), (tA 0, .inr (2, [.ref (tA 1), .ref (tA 2), .ref (tA 3), .ref (tA 4), .ref (tA 5), .ref (tA 6), .ref (tA 7), .ref (tA 8), .long bu, .int (nI (mx_n T))]))] U.heap ∧ va_K (dC, dI) vwCl [(cI, .int), (cJ, .long), (cZ, .boolean)] U)) (vp_Si (fun r => zb r (rq_P T F q (jb set) nn))) 0 0 (fun _ => False) := by
  refine Met.ofW (cc := cX3_isReached) (maxL := 5) (ret := (some .boolean)) (by decide) rfl ?_
  intro p e s m args below meth c s₁ B hml hv
  obtain ⟨rfl, hP, hK⟩ := hv
  have hx := B.exec
  have hb := B.bytes
  have hr := B.returns
  have hts := atoms_spec (ws := wsX3_isReached) B.pre
  have hown : s.vm.findClass RX3 = some m.cls := findClass_of_methodNamed B.named
  have hlocks := B.notSynchronized
  have hP : va_P (dC, dI) vwCl [(o, .inr (3, [.ref (tA 0), .ref (fA 0), .ref (pA 0), .ref (rA 0)])), (fA 0, .inr (0, [.ref (fA 1), .ref (fA 2), .ref (fA 3), .int (nI (mx_m F))])), (fA 1, .inl (cI, 40, .inl fl)), (fA 2, .inl (cI, 40, .inl fr)), (fA 3, .inl (cZ, 40, .inl fs)), (rA 0, .inr (1, [.ref (tA 0), .ref (rA 1), .ref (rA 2), .ref (rA 3), .ref (rA 4), .ref (rA 5), .ref (rA 6), .ref (rA 7), .long un, .int mi])), (rA 1, .inl (cI, 60, .inl nm)), (rA 2, .inl (cJ, 60, .inr (.inl me))), (rA 6, .inl (cJ, 60, .inr (.inl be))), (tA 0, .inr (2, [.ref (tA 1), .ref (tA 2), .ref (tA 3), .ref (tA 4), .ref (tA 5), .ref (tA 6), .ref (tA 7), .ref (tA 8), .long bu, .int (nI (mx_n T))]))] s.heap := hP
  have hl := lv_entry ([.ref o, .long set, .int (qe_a q), .int (qe_b q)]) (n := 5) (Nat.le_of_ble_eq_true rfl)
  rw [lg_entry_eq]
  generalize (lg_sl ([.ref o, .long set, .int (qe_a q), .int (qe_b q)]) ++ List.replicate (5 - (lg_sl ([.ref o, .long set, .int (qe_a q), .int (qe_b q)])).length) Slot.unset).toArray = ls at hl ⊢
  have hl : lv_has ls 5 [(0, .ref o), (1, .long set), (3, .int (qe_a q)), (4, .int (qe_b q))] := hl
  refine lv_iload_n hx hb dX3_isReached_0 rfl (lv_at hl 2 rfl) ?_
  refine lv_iconst (v := (-1)) hx hb dX3_isReached_1 (by decide) ?_
  refine lv_icmp_ne (tgt := 13) hx hb dX3_isReached_2 (by decide) (fun c1 => ?_) (fun c1 => ?_)
  · obtain ⟨x, y, rfl⟩ : ∃ x y, q = some (x, y) := by cases q with | none => exact absurd rfl c1 | some p => exact ⟨p.1, p.2, rfl⟩
    obtain ⟨hx0, hy0⟩ := hq x y rfl
    have hl : lv_has ls 5 [(0, .ref o), (1, .long set), (3, .int (nI x)), (4, .int (nI y))] := hl
    refine lv_aload_n hx hb dX3_isReached_13 rfl (lv_at hl 0 rfl) ?_
    refine va_get (D := (dC, dI)) (ci := 3) (v := .ref (rA 0)) (C := RX3) (T := TX3) (N := 4) hx hb hts (fun w h => woX3_isReached w (inX3 w h)) hown hK hP 0 rfl rfl 3 (by decide) (hts _ (woX3_isReached _ wd_145)) (fun _ h9 => h9) rfl dX3_isReached_14 ?_
    refine lv_iload_n hx hb dX3_isReached_17 rfl (lv_at hl 2 rfl) ?_
    refine lv_iload hx hb dX3_isReached_18 (lv_at hl 3 rfl) ?_
    have hPc := hP.sub (ws' := [(rA 0, .inr (1, [.ref (tA 0), .ref (rA 1), .ref (rA 2), .ref (rA 3), .ref (rA 4), .ref (rA 5), .ref (rA 6), .ref (rA 7), .long un, .int mi])), (rA 1, .inl (cI, 60, .inl nm))]) [5, 6] rfl
    refine vp_callSi (W.runV (As := [.int (nI x), .int (nI y)]) (rest := []) ⟨hx, hb, hml, hown, hts⟩ (c_areOne l dC dI cI cJ cZ rA tA nm un mi x y (by omega) (by omega)) (cwV 2 hts (w0_goodV woX3_isReached wd_199 wd_245 wd_197 wd_198 wd_4) rfl rfl rfl (by decide +kernel) ⟨Nat.le_of_ble_eq_true rfl, Nat.le_of_ble_eq_true rfl⟩) ⟨fun a U g mk q => by obtain ⟨q0, qP, qK⟩ := q; exact ⟨q0, qP, va_K.moved (u := U) (U := U.calling g mk a) (Vm.Alike.refl U.vm) qK⟩, va_recv hK hP (ci := 1) (q0 := 5) rfl rfl, fun U hU hW => ⟨rfl, by rw [hU]; exact hPc, va_K.moved hW.alike hK⟩⟩ rfl rfl hl.1 rfl (lv_room (Nat.le_of_ble_eq_true rfl)) dX3_isReached_20 ⟨Nat.zero_le _, Nat.zero_le _⟩) (fun r1 hr1 => ?_)
    have hab : nm x = nm y ↔ nn x = nn y := by rw [h.1 x hx0, h.1 y hy0]; exact nI_eq (Nat.lt_trans (h.2.choose_spec.choose_spec.1.1 x hx0).1 (by omega)) (Nat.lt_trans (h.2.choose_spec.choose_spec.1.1 y hy0).1 (by omega))
    have hr2 : zb r1 (rq_P T F (some (x, y)) (jb set) nn) := hr1.elim (fun z => Or.inl ⟨z.1, hab.mp z.2⟩) (fun z => Or.inr ⟨z.1, fun k => z.2 (hab.mpr k)⟩)
    rcases hr2 with ⟨e1, e2⟩ | ⟨e1, e2⟩
    · subst e1
      exact W.zret (v := 1) hx hb hr rfl (fun t9 ht9 _ => ⟨_, rfl, Or.inl ⟨rfl, e2⟩, ht9⟩) (fun q h => by cases h) dX3_isReached_23
    · subst e1
      exact W.zret (v := 0) hx hb hr rfl (fun t9 ht9 _ => ⟨_, rfl, Or.inr ⟨rfl, e2⟩, ht9⟩) (fun q h => by cases h) dX3_isReached_23
  · obtain rfl : q = none := by cases q with | none => rfl | some p => exact absurd ((mx_enc_m1 (o := some p.1) (fun k e => by cases e; have := (hq p.1 p.2 rfl).1; omega)).mp c1) (by simp)
    refine lv_aload_n hx hb dX3_isReached_5 rfl (lv_at hl 0 rfl) ?_
    refine lv_lload_n hx hb dX3_isReached_6 rfl (lv_at hl 1 rfl) ?_
    have hPc := hP.sub (ws' := [(o, .inr (3, [.ref (tA 0), .ref (fA 0), .ref (pA 0), .ref (rA 0)])), (fA 0, .inr (0, [.ref (fA 1), .ref (fA 2), .ref (fA 3), .int (nI (mx_m F))])), (fA 1, .inl (cI, 40, .inl fl)), (fA 2, .inl (cI, 40, .inl fr)), (fA 3, .inl (cZ, 40, .inl fs)), (rA 0, .inr (1, [.ref (tA 0), .ref (rA 1), .ref (rA 2), .ref (rA 3), .ref (rA 4), .ref (rA 5), .ref (rA 6), .ref (rA 7), .long un, .int mi])), (rA 1, .inl (cI, 60, .inl nm)), (rA 2, .inl (cJ, 60, .inr (.inl me))), (rA 6, .inl (cJ, 60, .inr (.inl be))), (tA 0, .inr (2, [.ref (tA 1), .ref (tA 2), .ref (tA 3), .ref (tA 4), .ref (tA 5), .ref (tA 6), .ref (tA 7), .ref (tA 8), .long bu, .int (nI (mx_n T))]))]) [0, 1, 2, 3, 4, 5, 6, 7, 8, 9] rfl
    refine vp_callSi (W.runV (As := [.long set]) (rest := []) ⟨hx, hb, hml, hown, hts⟩ (c_isBroken l dC dI cI cJ cZ T F o fA pA rA tA nm me be un mi bu fl fr fs nn fu su tu bd set hn h hfk) (cwV 1 hts (w0_goodV woX3_isReached wd_240 wd_237 wd_239 ws_2 wd_1) rfl rfl rfl (by decide +kernel) ⟨Nat.le_of_ble_eq_true rfl, Nat.le_of_ble_eq_true rfl⟩) ⟨fun a U g mk q => by obtain ⟨q0, qP, qK⟩ := q; exact ⟨q0, qP, va_K.moved (u := U) (U := U.calling g mk a) (Vm.Alike.refl U.vm) qK⟩, va_recv hK hP (ci := 3) (q0 := 0) rfl rfl, fun U hU hW => ⟨rfl, by rw [hU]; exact hPc, va_K.moved hW.alike hK⟩⟩ rfl rfl hl.1 rfl (lv_room (Nat.le_of_ble_eq_true rfl)) dX3_isReached_7 ⟨Nat.zero_le _, Nat.zero_le _⟩) (fun r1 hr1 => ?_)
    rcases hr1 with ⟨e1, e2⟩ | ⟨e1, e2⟩
    · subst e1
      refine lv_goto (tgt := 23) hx hb dX3_isReached_10 (by decide) ?_
      exact W.zret (v := 1) hx hb hr rfl (fun t9 ht9 _ => ⟨_, rfl, Or.inl ⟨rfl, e2⟩, ht9⟩) (fun q h => by cases h) dX3_isReached_23
    · subst e1
      refine lv_goto (tgt := 23) hx hb dX3_isReached_10 (by decide) ?_
      exact W.zret (v := 0) hx hb hr rfl (fun t9 ht9 _ => ⟨_, rfl, Or.inr ⟨rfl, e2⟩, ht9⟩) (fun q h => by cases h) dX3_isReached_23
