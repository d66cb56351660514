set_option maxHeartbeats 4000000 in
set_option maxRecDepth 100000 in
theorem cr_loop {p : Program} {l : Launch} {e : Env} {s : State} {m : MethodId} {args : Array Value} {below : List Frame} {meth : Method} {c : Code} {Q : State → Prop} (hx : p.tables.exec = Jvm.exec) (hb : c.code = cX1_countRows) (hown : s.vm.findClass RX1 = some m.cls) (hts : ∀ w ∈ wsX1_countRows, w.before args s = true) {dC : Nat → ClassId} {dI : Nat → Nat → Nat} {cI cJ cZ : ClassId} (hK : va_K (dC, dI) vwCl [(cI, .int), (cJ, .long), (cZ, .boolean)] s) {T : mx_T} {nn : Nat → Nat} {rA : Nat → Nat} {tA : Nat → Nat} {nm : Nat → Int32} {un : Int64} {mi : Int32} {bu : Int64} (hn : mx_n T ≤ 60) (hnm : ∀ t, t < mx_n T → nm t = nI (nn t) ∧ nn t < 60) {H : Heap} {locs : List Loc} (hP : va_P (dC, dI) vwCl [(rA 0, .inr (1, [.ref (tA 0), .ref (rA 1), .ref (rA 2), .ref (rA 3), .ref (rA 4), .ref (rA 5), .ref (rA 6), .ref (rA 7), .long un, .int mi])), (rA 1, .inl (cI, 60, .inl nm)), (tA 0, .inr (2, [.ref (tA 1), .ref (tA 2), .ref (tA 3), .ref (tA 4), .ref (tA 5), .ref (tA 6), .ref (tA 7), .ref (tA 8), .long bu, .int (nI (mx_n T))]))] H) (hml : c.maxLocals = 3) (kk : ∀ (ls : Array Slot), lv_has ls 3 [(1, .int (nI (mx_cnt (fun t => decide (nn t = t)) (mx_n T))))] → W p l e ({ frames := 0, cells := 0, slots := 0, locals := 0 }) s m args below meth c H locs 0 0 Q (F0 m 34 ls [])) : ∀ (k t : Nat) (ls : Array Slot), t + k = mx_n T → lv_has ls 3 [(0, .ref (rA 0)), (1, .int (nI (mx_cnt (fun t => decide (nn t = t)) t))), (2, .int (nI t))] → W p l e ({ frames := 0, cells := 0, slots := 0, locals := 0 }) s m args below meth c H locs 0 0 Q (F0 m 4 ls []) := by
  intro k
  induction k with
  | zero =>
    intro t ls hk hl
    refine lv_iload_n hx hb dX1_countRows_4 rfl (lv_at hl 2 rfl) ?_
    refine lv_aload_n hx hb dX1_countRows_5 rfl (lv_at hl 0 rfl) ?_
    refine va_get (D := (dC, dI)) (ci := 1) (v := .ref (tA 0)) (C := RX1) (T := TX1) (N := 10) hx hb hts (fun w h => woX1_countRows w (inX1 w h)) hown hK hP 0 rfl rfl 0 (by decide) (hts _ (woX1_countRows _ wd_108)) (fun _ h9 => h9) rfl dX1_countRows_6 ?_
    refine va_get (D := (dC, dI)) (ci := 2) (v := .int (nI (mx_n T))) (C := RX2) (T := TX2) (N := 10) hx hb hts (fun w h => woX1_countRows w (inX2 w h)) hown hK hP 2 rfl rfl 9 (by decide) (hts _ (woX1_countRows _ wd_54)) (fun _ h9 => h9) rfl dX1_countRows_9 ?_
    refine lv_icmp_ge (tgt := 34) hx hb dX1_countRows_12 (by decide) (fun c1 => ?_) (fun c1 => ?_)
    · have e : t = mx_n T := by omega
      rw [e] at hl
      exact kk _ (lv_sub hl [1] rfl)
    · exact absurd (nI_le (a := mx_n T) (b := t) (by omega) (by omega)) c1
  | succ k ih =>
    intro t ls hk hl
    have ht : t < mx_n T := by omega
    obtain ⟨e1, e2⟩ := hnm t ht
    refine lv_iload_n hx hb dX1_countRows_4 rfl (lv_at hl 2 rfl) ?_
    refine lv_aload_n hx hb dX1_countRows_5 rfl (lv_at hl 0 rfl) ?_
    refine va_get (D := (dC, dI)) (ci := 1) (v := .ref (tA 0)) (C := RX1) (T := TX1) (N := 10) hx hb hts (fun w h => woX1_countRows w (inX1 w h)) hown hK hP 0 rfl rfl 0 (by decide) (hts _ (woX1_countRows _ wd_108)) (fun _ h9 => h9) rfl dX1_countRows_6 ?_
    refine va_get (D := (dC, dI)) (ci := 2) (v := .int (nI (mx_n T))) (C := RX2) (T := TX2) (N := 10) hx hb hts (fun w h => woX1_countRows w (inX2 w h)) hown hK hP 2 rfl rfl 9 (by decide) (hts _ (woX1_countRows _ wd_54)) (fun _ h9 => h9) rfl dX1_countRows_9 ?_
    refine lv_icmp_ge (tgt := 34) hx hb dX1_countRows_12 (by decide) (fun c1 => ?_) (fun c1 => ?_)
    · exact absurd c1 (nI_ge (a := t) (b := mx_n T) ht (by omega))
    · refine lv_aload_n hx hb dX1_countRows_15 rfl (lv_at hl 0 rfl) ?_
      refine va_get (D := (dC, dI)) (ci := 1) (v := .ref (rA 1)) (C := RX1) (T := TX1) (N := 10) hx hb hts (fun w h => woX1_countRows w (inX1 w h)) hown hK hP 0 rfl rfl 1 (by decide) (hts _ (woX1_countRows _ wd_109)) (fun _ h9 => h9) rfl dX1_countRows_16 ?_
      refine lv_iload_n hx hb dX1_countRows_19 rfl (lv_at hl 2 rfl) ?_
      refine va_iald hx hb hK hP 1 0 rfl rfl (vp_in_nI (by omega) (by omega)) dX1_countRows_20 ?_
      rw [show (nI t).toNatClampNeg = t from nI_clamp (by omega)]
      refine lv_iload_n hx hb dX1_countRows_21 rfl (lv_at hl 2 rfl) ?_
      refine lv_icmp_ne (tgt := 28) hx hb dX1_countRows_22 (by decide) (fun c2 => ?_) (fun c2 => ?_)
      · obtain ⟨y_1, ey_1⟩ : ∃ y : Int32, y = (nI t) + 1 := ⟨_, rfl⟩
        refine lv_iinc (v := y_1) (lv' := [(2, .int y_1), (0, .ref (rA 0)), (1, .int (nI (mx_cnt (fun t => decide (nn t = t)) t)))]) hx hb dX1_countRows_28 hl (k := 2) rfl (by rw [ey_1]; rfl) (by decide) rfl (fun ls hl => ?_)
        refine lv_goto (tgt := 4) hx hb dX1_countRows_31 (by decide) ?_
        have ec : mx_cnt (fun t => decide (nn t = t)) (t + 1) = mx_cnt (fun t => decide (nn t = t)) t := by rw [mx_cnt_s, if_neg (by simp only [decide_eq_true_eq]; exact fun z => c2 (by rw [e1, z])), Nat.add_zero]
        rw [ey_1, nI_1] at hl
        rw [← ec] at hl
        exact ih (t + 1) _ (by omega) (lv_sub hl [1, 2, 0] rfl)
      · obtain ⟨y_2, ey_2⟩ : ∃ y : Int32, y = (nI (mx_cnt (fun t => decide (nn t = t)) t)) + 1 := ⟨_, rfl⟩
        refine lv_iinc (v := y_2) (lv' := [(1, .int y_2), (0, .ref (rA 0)), (2, .int (nI t))]) hx hb dX1_countRows_25 hl (k := 1) rfl (by rw [ey_2]; rfl) (by decide) rfl (fun ls hl => ?_)
        obtain ⟨y_3, ey_3⟩ : ∃ y : Int32, y = (nI t) + 1 := ⟨_, rfl⟩
        refine lv_iinc (v := y_3) (lv' := [(2, .int y_3), (1, .int y_2), (0, .ref (rA 0))]) hx hb dX1_countRows_28 hl (k := 2) rfl (by rw [ey_3]; rfl) (by decide) rfl (fun ls hl => ?_)
        refine lv_goto (tgt := 4) hx hb dX1_countRows_31 (by decide) ?_
        have ec : mx_cnt (fun t => decide (nn t = t)) (t + 1) = mx_cnt (fun t => decide (nn t = t)) t + 1 := by rw [mx_cnt_s, if_pos (by simp only [decide_eq_true_eq]; exact (nI_eq (by omega) (by omega)).mp (e1.symm.trans c2))]
        rw [ey_2, nI_1] at hl
        rw [ey_3, nI_1] at hl
        rw [← ec] at hl
        exact ih (t + 1) _ (by omega) (lv_sub hl [2, 1, 0] rfl)
set_option maxHeartbeats 4000000 in
set_option maxRecDepth 100000 in
/-- countRows -/
theorem c_countRows (l : Launch) (dC : Nat → ClassId) (dI : Nat → Nat → Nat) (cI cJ cZ : ClassId) (T : mx_T) (nn : Nat → Nat) (rA : Nat → Nat) (tA : Nat → Nat) (nm : Nat → Int32) (un : Int64) (mi : Int32) (bu : Int64) (hn : mx_n T ≤ 60) (hnm : ∀ t, t < mx_n T → nm t = nI (nn t) ∧ nn t < 60) : Met l yX1_countRows wsX1_countRows ({ frames := 0, cells := 0, slots := 0, locals := 0 }) (va_Pc [.ref (rA 0)] (fun U => va_P (dC, dI) vwCl [(rA 0, .inr (1, [.ref (tA 0), .ref (rA 1), .ref (rA 2), .ref (rA 3), .ref (rA 4), .ref (rA 5), .ref (rA 6), .ref (rA 7), .long un, .int mi])), (rA 1, .inl (cI, 60, .inl nm)), (tA 0, .inr (2, [.ref (tA 1), .ref (tA 2), .ref (tA 3), .ref (tA 4), .ref (tA 5), .ref (tA 6), .ref (tA 7), .ref (tA 8), .long bu, .int (nI (mx_n T))]))] U.heap ∧ va_K (dC, dI) vwCl [(cI, .int), (cJ, .long), (cZ, .boolean)] U)) (vp_Si (fun r => r = nI (mx_cnt (fun t => decide (nn t = t)) (mx_n T)))) 0 0 (fun _ => False) := by
  refine Met.ofW (cc := cX1_countRows) (maxL := 3) (ret := (some .int)) (by decide) rfl ?_
  intro p e s m args below meth c s₁ B hml hv
  obtain ⟨rfl, hP, hK⟩ := hv
  have hx := B.exec
  have hb := B.bytes
  have hr := B.returns
  have hts := atoms_spec (ws := wsX1_countRows) B.pre
  have hown : s.vm.findClass RX1 = some m.cls := findClass_of_methodNamed B.named
  have hlocks := B.notSynchronized
  have hP : va_P (dC, dI) vwCl [(rA 0, .inr (1, [.ref (tA 0), .ref (rA 1), .ref (rA 2), .ref (rA 3), .ref (rA 4), .ref (rA 5), .ref (rA 6), .ref (rA 7), .long un, .int mi])), (rA 1, .inl (cI, 60, .inl nm)), (tA 0, .inr (2, [.ref (tA 1), .ref (tA 2), .ref (tA 3), .ref (tA 4), .ref (tA 5), .ref (tA 6), .ref (tA 7), .ref (tA 8), .long bu, .int (nI (mx_n T))]))] s.heap := hP
  have hl := lv_entry ([.ref (rA 0)]) (n := 3) (Nat.le_of_ble_eq_true rfl)
  rw [lg_entry_eq]
  generalize (lg_sl ([.ref (rA 0)]) ++ List.replicate (3 - (lg_sl ([.ref (rA 0)])).length) Slot.unset).toArray = ls at hl ⊢
  have hl : lv_has ls 3 [(0, .ref (rA 0))] := hl
  refine lv_iconst (v := 0) hx hb dX1_countRows_0 (by decide) ?_
  refine lv_istore_n (lv' := [(1, .int 0), (0, .ref (rA 0))]) hx hb dX1_countRows_1 rfl hl (by decide) rfl (fun ls hl => ?_)
  refine lv_iconst (v := 0) hx hb dX1_countRows_2 (by decide) ?_
  refine lv_istore_n (lv' := [(2, .int 0), (1, .int 0), (0, .ref (rA 0))]) hx hb dX1_countRows_3 rfl hl (by decide) rfl (fun ls hl => ?_)
  refine cr_loop hx hb hown hts hK hn hnm hP hml (fun ls hl => ?_) (mx_n T) 0 _ (by omega) (lv_sub hl [2, 1, 0] rfl)
  refine lv_iload_n hx hb dX1_countRows_34 rfl (lv_at hl 0 rfl) ?_
  exact W.iret (v := nI (mx_cnt (fun t => decide (nn t = t)) (mx_n T))) hx hb hr (fun t9 ht9 _ => ⟨_, rfl, rfl, ht9⟩) (fun q h => by cases h) dX1_countRows_35

set_option maxHeartbeats 4000000 in
set_option maxRecDepth 100000 in
theorem cu_loop {p : Program} {l : Launch} {e : Env} {s : State} {m : MethodId} {args : Array Value} {below : List Frame} {meth : Method} {c : Code} {Q : State → Prop} (hx : p.tables.exec = Jvm.exec) (hb : c.code = cX2_countUsedSigns) (hown : s.vm.findClass RX2 = some m.cls) (hts : ∀ w ∈ wsX2_countUsedSigns, w.before args s = true) {dC : Nat → ClassId} {dI : Nat → Nat → Nat} {cI cJ cZ : ClassId} (hK : va_K (dC, dI) vwCl [(cI, .int), (cJ, .long), (cZ, .boolean)] s) {tA : Nat → Nat} {bu : Int64} {po : Nat → Int32} {ct : Int32}  {H : Heap} {locs : List Loc} (hP : va_P (dC, dI) vwCl [(tA 0, .inr (2, [.ref (tA 1), .ref (tA 2), .ref (tA 3), .ref (tA 4), .ref (tA 5), .ref (tA 6), .ref (tA 7), .ref (tA 8), .long bu, .int ct])), (tA 1, .inl (cI, 16, .inl po))] H) (hml : c.maxLocals = 3) (kk : ∀ (ls : Array Slot), lv_has ls 3 [(1, .int (nI (mx_cnt (fun t => decide (¬ po t = -1)) (16))))] → W p l e ({ frames := 0, cells := 0, slots := 0, locals := 0 }) s m args below meth c H locs 0 0 Q (F0 m 29 ls [])) : ∀ (k t : Nat) (ls : Array Slot), t + k = 16 → lv_has ls 3 [(0, .ref (tA 0)), (1, .int (nI (mx_cnt (fun t => decide (¬ po t = -1)) t))), (2, .int (nI t))] → W p l e ({ frames := 0, cells := 0, slots := 0, locals := 0 }) s m args below meth c H locs 0 0 Q (F0 m 4 ls []) := by
  intro k
  induction k with
  | zero =>
    intro t ls hk hl
    refine lv_iload_n hx hb dX2_countUsedSigns_4 rfl (lv_at hl 2 rfl) ?_
    refine lv_bipush (v := 16) hx hb dX2_countUsedSigns_5 (by decide) ?_
    refine lv_icmp_ge (tgt := 29) hx hb dX2_countUsedSigns_7 (by decide) (fun c1 => ?_) (fun c1 => ?_)
    · have e : t = 16 := by omega
      rw [e] at hl
      exact kk _ (lv_sub hl [1] rfl)
    · exact absurd (nI_le (a := 16) (b := t) (by omega) (by omega)) c1
  | succ k ih =>
    intro t ls hk hl
    have ht : t < 16 := by omega
    refine lv_iload_n hx hb dX2_countUsedSigns_4 rfl (lv_at hl 2 rfl) ?_
    refine lv_bipush (v := 16) hx hb dX2_countUsedSigns_5 (by decide) ?_
    refine lv_icmp_ge (tgt := 29) hx hb dX2_countUsedSigns_7 (by decide) (fun c1 => ?_) (fun c1 => ?_)
    · exact absurd c1 (nI_ge (a := t) (b := 16) ht (by omega))
    · refine lv_aload_n hx hb dX2_countUsedSigns_10 rfl (lv_at hl 0 rfl) ?_
      refine va_get (D := (dC, dI)) (ci := 2) (v := .ref (tA 1)) (C := RX2) (T := TX2) (N := 10) hx hb hts (fun w h => woX2_countUsedSigns w (inX2 w h)) hown hK hP 0 rfl rfl 0 (by decide) (hts _ (woX2_countUsedSigns _ wd_29)) (fun _ h9 => h9) rfl dX2_countUsedSigns_11 ?_
      refine lv_iload_n hx hb dX2_countUsedSigns_14 rfl (lv_at hl 2 rfl) ?_
      refine va_iald hx hb hK hP 1 0 rfl rfl (vp_in_nI (by omega) (by omega)) dX2_countUsedSigns_15 ?_
      rw [show (nI t).toNatClampNeg = t from nI_clamp (by omega)]
      refine lv_iconst (v := (-1)) hx hb dX2_countUsedSigns_16 (by decide) ?_
      refine lv_icmp_eq (tgt := 23) hx hb dX2_countUsedSigns_17 (by decide) (fun c2 => ?_) (fun c2 => ?_)
      · obtain ⟨y_1, ey_1⟩ : ∃ y : Int32, y = (nI t) + 1 := ⟨_, rfl⟩
        refine lv_iinc (v := y_1) (lv' := [(2, .int y_1), (0, .ref (tA 0)), (1, .int (nI (mx_cnt (fun t => decide (¬ po t = -1)) t)))]) hx hb dX2_countUsedSigns_23 hl (k := 2) rfl (by rw [ey_1]; rfl) (by decide) rfl (fun ls hl => ?_)
        refine lv_goto (tgt := 4) hx hb dX2_countUsedSigns_26 (by decide) ?_
        have ec : mx_cnt (fun t => decide (¬ po t = -1)) (t + 1) = mx_cnt (fun t => decide (¬ po t = -1)) t := by rw [mx_cnt_s, if_neg (by simp only [decide_eq_true_eq]; exact fun z => z c2), Nat.add_zero]
        rw [ey_1, nI_1] at hl
        rw [← ec] at hl
        exact ih (t + 1) _ (by omega) (lv_sub hl [1, 2, 0] rfl)
      · obtain ⟨y_2, ey_2⟩ : ∃ y : Int32, y = (nI (mx_cnt (fun t => decide (¬ po t = -1)) t)) + 1 := ⟨_, rfl⟩
        refine lv_iinc (v := y_2) (lv' := [(1, .int y_2), (0, .ref (tA 0)), (2, .int (nI t))]) hx hb dX2_countUsedSigns_20 hl (k := 1) rfl (by rw [ey_2]; rfl) (by decide) rfl (fun ls hl => ?_)
        obtain ⟨y_3, ey_3⟩ : ∃ y : Int32, y = (nI t) + 1 := ⟨_, rfl⟩
        refine lv_iinc (v := y_3) (lv' := [(2, .int y_3), (1, .int y_2), (0, .ref (tA 0))]) hx hb dX2_countUsedSigns_23 hl (k := 2) rfl (by rw [ey_3]; rfl) (by decide) rfl (fun ls hl => ?_)
        refine lv_goto (tgt := 4) hx hb dX2_countUsedSigns_26 (by decide) ?_
        have ec : mx_cnt (fun t => decide (¬ po t = -1)) (t + 1) = mx_cnt (fun t => decide (¬ po t = -1)) t + 1 := by rw [mx_cnt_s, if_pos (by simp only [decide_eq_true_eq]; exact c2)]
        rw [ey_2, nI_1] at hl
        rw [ey_3, nI_1] at hl
        rw [← ec] at hl
        exact ih (t + 1) _ (by omega) (lv_sub hl [2, 1, 0] rfl)
set_option maxHeartbeats 4000000 in
set_option maxRecDepth 100000 in
/-- countUsedSigns -/
theorem c_countUsedSigns (l : Launch) (dC : Nat → ClassId) (dI : Nat → Nat → Nat) (cI cJ cZ : ClassId) (tA : Nat → Nat) (bu : Int64) (po : Nat → Int32) (ct : Int32) : Met l yX2_countUsedSigns wsX2_countUsedSigns ({ frames := 0, cells := 0, slots := 0, locals := 0 }) (va_Pc [.ref (tA 0)] (fun U => va_P (dC, dI) vwCl [(tA 0, .inr (2, [.ref (tA 1), .ref (tA 2), .ref (tA 3), .ref (tA 4), .ref (tA 5), .ref (tA 6), .ref (tA 7), .ref (tA 8), .long bu, .int ct])), (tA 1, .inl (cI, 16, .inl po))] U.heap ∧ va_K (dC, dI) vwCl [(cI, .int), (cJ, .long), (cZ, .boolean)] U)) (vp_Si (fun r => r = nI (mx_cnt (fun t => decide (¬ po t = -1)) 16))) 0 0 (fun _ => False) := by
  refine Met.ofW (cc := cX2_countUsedSigns) (maxL := 3) (ret := (some .int)) (by decide) rfl ?_
  intro p e s m args below meth c s₁ B hml hv
  obtain ⟨rfl, hP, hK⟩ := hv
  have hx := B.exec
  have hb := B.bytes
  have hr := B.returns
  have hts := atoms_spec (ws := wsX2_countUsedSigns) B.pre
  have hown : s.vm.findClass RX2 = some m.cls := findClass_of_methodNamed B.named
  have hlocks := B.notSynchronized
  have hP : va_P (dC, dI) vwCl [(tA 0, .inr (2, [.ref (tA 1), .ref (tA 2), .ref (tA 3), .ref (tA 4), .ref (tA 5), .ref (tA 6), .ref (tA 7), .ref (tA 8), .long bu, .int ct])), (tA 1, .inl (cI, 16, .inl po))] s.heap := hP
  have hl := lv_entry ([.ref (tA 0)]) (n := 3) (Nat.le_of_ble_eq_true rfl)
  rw [lg_entry_eq]
  generalize (lg_sl ([.ref (tA 0)]) ++ List.replicate (3 - (lg_sl ([.ref (tA 0)])).length) Slot.unset).toArray = ls at hl ⊢
  have hl : lv_has ls 3 [(0, .ref (tA 0))] := hl
  refine lv_iconst (v := 0) hx hb dX2_countUsedSigns_0 (by decide) ?_
  refine lv_istore_n (lv' := [(1, .int 0), (0, .ref (tA 0))]) hx hb dX2_countUsedSigns_1 rfl hl (by decide) rfl (fun ls hl => ?_)
  refine lv_iconst (v := 0) hx hb dX2_countUsedSigns_2 (by decide) ?_
  refine lv_istore_n (lv' := [(2, .int 0), (1, .int 0), (0, .ref (tA 0))]) hx hb dX2_countUsedSigns_3 rfl hl (by decide) rfl (fun ls hl => ?_)
  refine cu_loop hx hb hown hts hK  hP hml (fun ls hl => ?_) (16) 0 _ (by omega) (lv_sub hl [2, 1, 0] rfl)
  refine lv_iload_n hx hb dX2_countUsedSigns_29 rfl (lv_at hl 0 rfl) ?_
  exact W.iret (v := nI (mx_cnt (fun t => decide (¬ po t = -1)) (16))) hx hb hr (fun t9 ht9 _ => ⟨_, rfl, rfl, ht9⟩) (fun q h => by cases h) dX2_countUsedSigns_30

def us_add (f : Nat → Int64) (q : Option Nat) (t : Nat) : Nat → Int64 := match q with
  | none => f
  | some k => vp_updL f k (f k ||| ((1 : Int64) <<< ((nI t).toInt64 &&& 63)))

set_option maxHeartbeats 4000000 in
set_option maxRecDepth 100000 in
/-- use -/
theorem c_use (l : Launch) (dC : Nat → ClassId) (dI : Nat → Nat → Nat) (cI cJ cZ : ClassId) (a0 : Nat) (f : Nat → Int64) (q : Option Nat) (t : Nat) (sz : Nat) (hq : ∀ k, q = some k → k < 60) : Met l yX1_use wsX1_use ({ frames := 0, cells := 0, slots := 0, locals := 0 }) (va_Pc [.ref a0, .int (mx_enc q), .int (nI t)] (fun U => U.heap.size = sz ∧ va_P (dC, dI) vwCl [(a0, .inl (cJ, 60, .inr (.inl f)))] U.heap ∧ va_K (dC, dI) vwCl [(cI, .int), (cJ, .long), (cZ, .boolean)] U ∧ va_D (fun _ => True) [(a0, .inl (cJ, 60, .inr (.inl f)))])) (va_Qv (fun u : Unit => True) (fun (u : Unit) t7 => match u with | _ => va_P (dC, dI) vwCl [(a0, .inl (cJ, 60, .inr (.inl (us_add f q t))))] t7.heap ∧ va_K (dC, dI) vwCl [(cI, .int), (cJ, .long), (cZ, .boolean)] t7 ∧ va_D (va_A [(a0, .inl (cJ, 60, .inr (.inl f)))] sz) [(a0, .inl (cJ, 60, .inr (.inl (us_add f q t))))]) (va_A [(a0, .inl (cJ, 60, .inr (.inl f)))] sz)) 0 0 (va_A [(a0, .inl (cJ, 60, .inr (.inl f)))] sz) := by
  refine Met.ofW (cc := cX1_use) (maxL := 3) (ret := none) (by decide) rfl ?_
  intro p e s m args below meth c s₁ B hml hv
  obtain ⟨rfl, hsz, hP, hK, hD0⟩ := hv
  have hx := B.exec
  have hb := B.bytes
  have hr := B.returns
  have hts := atoms_spec (ws := wsX1_use) B.pre
  have hown : s.vm.findClass RX1 = some m.cls := findClass_of_methodNamed B.named
  have hlocks := B.notSynchronized
  subst hsz
  have hD := hD0.self (sz := s.heap.size)
  generalize hAe : va_A [(a0, .inl (cJ, 60, .inr (.inl f)))] s.heap.size = A at hD ⊢
  have hA : ∀ q : Nat, s.heap.size ≤ q → A q := fun q h => by rw [← hAe]; exact Or.inr h
  have hS : va_S A s.heap s.heap [] := va_S.rf
  have hP : va_P (dC, dI) vwCl [(a0, .inl (cJ, 60, .inr (.inl f)))] s.heap := hP
  have hl := lv_entry ([.ref a0, .int (mx_enc q), .int (nI t)]) (n := 3) (Nat.le_of_ble_eq_true rfl)
  rw [lg_entry_eq]
  generalize (lg_sl ([.ref a0, .int (mx_enc q), .int (nI t)]) ++ List.replicate (3 - (lg_sl ([.ref a0, .int (mx_enc q), .int (nI t)])).length) Slot.unset).toArray = ls at hl ⊢
  have hl : lv_has ls 3 [(0, .ref a0), (1, .int (mx_enc q)), (2, .int (nI t))] := hl
  refine lv_iload_n hx hb dX1_use_0 rfl (lv_at hl 1 rfl) ?_
  refine lv_iconst (v := (-1)) hx hb dX1_use_1 (by decide) ?_
  refine lv_icmp_eq (tgt := 14) hx hb dX1_use_2 (by decide) (fun c1 => ?_) (fun c1 => ?_)
  · obtain rfl : q = none := (mx_enc_m1 (fun k h => Nat.lt_of_lt_of_le (hq k h) (by decide))).mp c1
    have hP9 := hP.sub (ws' := [(a0, .inl (cJ, 60, .inr (.inl (us_add f none t))))]) [0] rfl
    have hD9 := hD.sub (ws' := [(a0, .inl (cJ, 60, .inr (.inl (us_add f none t))))]) [0] (by decide) rfl
    exact W.vret hx hb hr (fun t9 ht9 hW9 => ⟨⟨(), rfl, trivial, by rw [ht9]; exact hP9, va_K.moved hW9.alike hK, hD9⟩, hS.F ht9⟩) hS.2.2 dX1_use_14
  · obtain ⟨k, rfl⟩ : ∃ k, q = some k := by cases q with | none => exact absurd rfl c1 | some k => exact ⟨k, rfl⟩
    have hk := hq k rfl
    have hl : lv_has ls 3 [(0, .ref a0), (1, .int (nI k)), (2, .int (nI t))] := hl
    refine lv_aload_n hx hb dX1_use_5 rfl (lv_at hl 0 rfl) ?_
    refine lv_iload_n hx hb dX1_use_6 rfl (lv_at hl 1 rfl) ?_
    refine lv_dup2_11 hx hb dX1_use_7 rfl rfl ?_
    refine va_lald hx hb hK hP 0 1 rfl rfl (vp_in_nI (by omega) (by omega)) dX1_use_8 ?_
    rw [show (nI k).toNatClampNeg = k from nI_clamp (by omega)]
    refine lv_lconst (v := 1) hx hb dX1_use_9 (by decide) ?_
    refine lv_iload_n hx hb dX1_use_10 rfl (lv_at hl 2 rfl) ?_
    refine lv_lshl (v := (1 : Int64) <<< ((nI t).toInt64 &&& 63)) hx hb dX1_use_11 rfl ?_
    refine lv_lor hx hb dX1_use_12 ?_
    refine va_last hx hb hK hP hD hS 0 1 rfl rfl (vp_in_nI (by omega) (by omega)) dX1_use_13 (fun H locs hP hD hS => ?_)
    rw [show (nI k).toNatClampNeg = k from nI_clamp (by omega)] at hP hD
    have hP : va_P (dC, dI) vwCl [(a0, .inl (cJ, 60, .inr (.inl (vp_updL f k ((f k) ||| ((1 : Int64) <<< ((nI t).toInt64 &&& 63)))))))] H := hP
    have hD : va_D A [(a0, .inl (cJ, 60, .inr (.inl (vp_updL f k ((f k) ||| ((1 : Int64) <<< ((nI t).toInt64 &&& 63)))))))] := hD
    have hP9 := hP.sub (ws' := [(a0, .inl (cJ, 60, .inr (.inl (us_add f (some k) t))))]) [0] rfl
    have hD9 := hD.sub (ws' := [(a0, .inl (cJ, 60, .inr (.inl (us_add f (some k) t))))]) [0] (by decide) rfl
    exact W.vret hx hb hr (fun t9 ht9 hW9 => ⟨⟨(), rfl, trivial, by rw [ht9]; exact hP9, va_K.moved hW9.alike hK, hD9⟩, hS.F ht9⟩) hS.2.2 dX1_use_14

def ad_Q (be : Nat → Int64) (bd : Nat → Int32) (bu : Int64) (s0 : Nat) (qa qb qc : Option Nat) (t : Nat) (u : (Nat → Int64) × (Nat → Int32)) : Prop :=
  (jb bu t = true → (∃ bv : Int64, u.1 = vp_updL be t bv ∧ ∀ i, jb bv i = (decide (qa = some i) || decide (qb = some i) || decide (qc = some i))) ∧ u.2 = upd bd t (nI s0)) ∧ (¬ jb bu t = true → u.1 = be ∧ u.2 = upd bd t (-1))

set_option maxHeartbeats 4000000 in
set_option maxRecDepth 100000 in
/-- addAlone: a term by itself -/
theorem c_addAlone (l : Launch) (dC : Nat → ClassId) (dI : Nat → Nat → Nat) (cI cJ cZ : ClassId) (rA : Nat → Nat) (tA : Nat → Nat) (nm : Nat → Int32) (me : Nat → Int64) (fu : Nat → Int64) (su : Nat → Int64) (tu : Nat → Int64) (be : Nat → Int64) (bd : Nat → Int32) (un : Int64) (mi : Int32) (bu : Int64) (sg : Nat → Int32) (fa : Nat → Int32) (fb : Nat → Int32) (fc : Nat → Int32) (ct : Int32) (s0 : Nat) (qa : Option Nat) (qb : Option Nat) (qc : Option Nat) (t : Nat) (sz : Nat) (ht0 : t < 60) (esg : sg t = nI s0) (efa : fa t = mx_enc qa) (efb : fb t = mx_enc qb) (efc : fc t = mx_enc qc) (hqa : ∀ k, qa = some k → k < 60) (hqb : ∀ k, qb = some k → k < 60) (hqc : ∀ k, qc = some k → k < 60) : Met l yX1_addAlone wsX1_addAlone ({ frames := 1, cells := 0, slots := 0, locals := 22 }) (va_Pc [.ref (rA 0), .int (nI t)] (fun U => U.heap.size = sz ∧ va_P (dC, dI) vwCl [(rA 0, .inr (1, [.ref (tA 0), .ref (rA 1), .ref (rA 2), .ref (rA 3), .ref (rA 4), .ref (rA 5), .ref (rA 6), .ref (rA 7), .long un, .int mi])), (rA 1, .inl (cI, 60, .inl nm)), (rA 2, .inl (cJ, 60, .inr (.inl me))), (rA 3, .inl (cJ, 60, .inr (.inl fu))), (rA 4, .inl (cJ, 60, .inr (.inl su))), (rA 5, .inl (cJ, 60, .inr (.inl tu))), (rA 6, .inl (cJ, 60, .inr (.inl be))), (rA 7, .inl (cI, 60, .inl bd)), (tA 0, .inr (2, [.ref (tA 1), .ref (tA 2), .ref (tA 3), .ref (tA 4), .ref (tA 5), .ref (tA 6), .ref (tA 7), .ref (tA 8), .long bu, .int ct])), (tA 4, .inl (cI, 60, .inl sg)), (tA 5, .inl (cI, 60, .inl fa)), (tA 6, .inl (cI, 60, .inl fb)), (tA 7, .inl (cI, 60, .inl fc))] U.heap ∧ va_K (dC, dI) vwCl [(cI, .int), (cJ, .long), (cZ, .boolean)] U ∧ va_D (fun _ => True) [(rA 0, .inr (1, [.ref (tA 0), .ref (rA 1), .ref (rA 2), .ref (rA 3), .ref (rA 4), .ref (rA 5), .ref (rA 6), .ref (rA 7), .long un, .int mi])), (rA 1, .inl (cI, 60, .inl nm)), (rA 2, .inl (cJ, 60, .inr (.inl me))), (rA 3, .inl (cJ, 60, .inr (.inl fu))), (rA 4, .inl (cJ, 60, .inr (.inl su))), (rA 5, .inl (cJ, 60, .inr (.inl tu))), (rA 6, .inl (cJ, 60, .inr (.inl be))), (rA 7, .inl (cI, 60, .inl bd)), (tA 0, .inr (2, [.ref (tA 1), .ref (tA 2), .ref (tA 3), .ref (tA 4), .ref (tA 5), .ref (tA 6), .ref (tA 7), .ref (tA 8), .long bu, .int ct])), (tA 4, .inl (cI, 60, .inl sg)), (tA 5, .inl (cI, 60, .inl fa)), (tA 6, .inl (cI, 60, .inl fb)), (tA 7, .inl (cI, 60, .inl fc))])) (va_Qv (ad_Q be bd bu s0 qa qb qc t) (fun (u : (Nat → Int64) × (Nat → Int32)) t7 => match u with | (be2, bd2) => va_P (dC, dI) vwCl [(rA 0, .inr (1, [.ref (tA 0), .ref (rA 1), .ref (rA 2), .ref (rA 3), .ref (rA 4), .ref (rA 5), .ref (rA 6), .ref (rA 7), .long un, .int mi])), (rA 1, .inl (cI, 60, .inl (upd nm t (nI t)))), (rA 2, .inl (cJ, 60, .inr (.inl (vp_updL me t ((1 : Int64) <<< ((nI t).toInt64 &&& 63)))))), (rA 3, .inl (cJ, 60, .inr (.inl (us_add fu qa t)))), (rA 4, .inl (cJ, 60, .inr (.inl (us_add su qb t)))), (rA 5, .inl (cJ, 60, .inr (.inl (us_add tu qc t)))), (rA 6, .inl (cJ, 60, .inr (.inl be2))), (rA 7, .inl (cI, 60, .inl bd2)), (tA 0, .inr (2, [.ref (tA 1), .ref (tA 2), .ref (tA 3), .ref (tA 4), .ref (tA 5), .ref (tA 6), .ref (tA 7), .ref (tA 8), .long bu, .int ct])), (tA 4, .inl (cI, 60, .inl sg)), (tA 5, .inl (cI, 60, .inl fa)), (tA 6, .inl (cI, 60, .inl fb)), (tA 7, .inl (cI, 60, .inl fc))] t7.heap ∧ va_K (dC, dI) vwCl [(cI, .int), (cJ, .long), (cZ, .boolean)] t7 ∧ va_D (va_A [(rA 0, .inr (1, [.ref (tA 0), .ref (rA 1), .ref (rA 2), .ref (rA 3), .ref (rA 4), .ref (rA 5), .ref (rA 6), .ref (rA 7), .long un, .int mi])), (rA 1, .inl (cI, 60, .inl nm)), (rA 2, .inl (cJ, 60, .inr (.inl me))), (rA 3, .inl (cJ, 60, .inr (.inl fu))), (rA 4, .inl (cJ, 60, .inr (.inl su))), (rA 5, .inl (cJ, 60, .inr (.inl tu))), (rA 6, .inl (cJ, 60, .inr (.inl be))), (rA 7, .inl (cI, 60, .inl bd)), (tA 0, .inr (2, [.ref (tA 1), .ref (tA 2), .ref (tA 3), .ref (tA 4), .ref (tA 5), .ref (tA 6), .ref (tA 7), .ref (tA 8), .long bu, .int ct])), (tA 4, .inl (cI, 60, .inl sg)), (tA 5, .inl (cI, 60, .inl fa)), (tA 6, .inl (cI, 60, .inl fb)), (tA 7, .inl (cI, 60, .inl fc))] sz) [(rA 0, .inr (1, [.ref (tA 0), .ref (rA 1), .ref (rA 2), .ref (rA 3), .ref (rA 4), .ref (rA 5), .ref (rA 6), .ref (rA 7), .long un, .int mi])), (rA 1, .inl (cI, 60, .inl (upd nm t (nI t)))), (rA 2, .inl (cJ, 60, .inr (.inl (vp_updL me t ((1 : Int64) <<< ((nI t).toInt64 &&& 63)))))), (rA 3, .inl (cJ, 60, .inr (.inl (us_add fu qa t)))), (rA 4, .inl (cJ, 60, .inr (.inl (us_add su qb t)))), (rA 5, .inl (cJ, 60, .inr (.inl (us_add tu qc t)))), (rA 6, .inl (cJ, 60, .inr (.inl be2))), (rA 7, .inl (cI, 60, .inl bd2)), (tA 0, .inr (2, [.ref (tA 1), .ref (tA 2), .ref (tA 3), .ref (tA 4), .ref (tA 5), .ref (tA 6), .ref (tA 7), .ref (tA 8), .long bu, .int ct])), (tA 4, .inl (cI, 60, .inl sg)), (tA 5, .inl (cI, 60, .inl fa)), (tA 6, .inl (cI, 60, .inl fb)), (tA 7, .inl (cI, 60, .inl fc))]) (va_A [(rA 0, .inr (1, [.ref (tA 0), .ref (rA 1), .ref (rA 2), .ref (rA 3), .ref (rA 4), .ref (rA 5), .ref (rA 6), .ref (rA 7), .long un, .int mi])), (rA 1, .inl (cI, 60, .inl nm)), (rA 2, .inl (cJ, 60, .inr (.inl me))), (rA 3, .inl (cJ, 60, .inr (.inl fu))), (rA 4, .inl (cJ, 60, .inr (.inl su))), (rA 5, .inl (cJ, 60, .inr (.inl tu))), (rA 6, .inl (cJ, 60, .inr (.inl be))), (rA 7, .inl (cI, 60, .inl bd)), (tA 0, .inr (2, [.ref (tA 1), .ref (tA 2), .ref (tA 3), .ref (tA 4), .ref (tA 5), .ref (tA 6), .ref (tA 7), .ref (tA 8), .long bu, .int ct])), (tA 4, .inl (cI, 60, .inl sg)), (tA 5, .inl (cI, 60, .inl fa)), (tA 6, .inl (cI, 60, .inl fb)), (tA 7, .inl (cI, 60, .inl fc))] sz)) 0 0 (va_A [(rA 0, .inr (1, [.ref (tA 0), .ref (rA 1), .ref (rA 2), .ref (rA 3), .ref (rA 4), .ref (rA 5), .ref (rA 6), .ref (rA 7), .long un, .int mi])), (rA 1, .inl (cI, 60, .inl nm)), (rA 2, .inl (cJ, 60, .inr (.inl me))), (rA 3, .inl (cJ, 60, .inr (.inl fu))), (rA 4, .inl (cJ, 60, .inr (.inl su))), (rA 5, .inl (cJ, 60, .inr (.inl tu))), (rA 6, .inl (cJ, 60, .inr (.inl be))), (rA 7, .inl (cI, 60, .inl bd)), (tA 0, .inr (2, [.ref (tA 1), .ref (tA 2), .ref (tA 3), .ref (tA 4), .ref (tA 5), .ref (tA 6), .ref (tA 7), .ref (tA 8), .long bu, .int ct])), (tA 4, .inl (cI, 60, .inl sg)), (tA 5, .inl (cI, 60, .inl fa)), (tA 6, .inl (cI, 60, .inl fb)), (tA 7, .inl (cI, 60, .inl fc))] sz) := by
  refine Met.ofW (cc := cX1_addAlone) (maxL := 3) (ret := none) (by decide) rfl ?_
  intro p e s m args below meth c s₁ B hml hv
  obtain ⟨rfl, hsz, hP, hK, hD0⟩ := hv
  have hx := B.exec
  have hb := B.bytes
  have hr := B.returns
  have hts := atoms_spec (ws := wsX1_addAlone) B.pre
  have hown : s.vm.findClass RX1 = some m.cls := findClass_of_methodNamed B.named
  have hlocks := B.notSynchronized
  subst hsz
  have hD := hD0.self (sz := s.heap.size)
  generalize hAe : va_A [(rA 0, .inr (1, [.ref (tA 0), .ref (rA 1), .ref (rA 2), .ref (rA 3), .ref (rA 4), .ref (rA 5), .ref (rA 6), .ref (rA 7), .long un, .int mi])), (rA 1, .inl (cI, 60, .inl nm)), (rA 2, .inl (cJ, 60, .inr (.inl me))), (rA 3, .inl (cJ, 60, .inr (.inl fu))), (rA 4, .inl (cJ, 60, .inr (.inl su))), (rA 5, .inl (cJ, 60, .inr (.inl tu))), (rA 6, .inl (cJ, 60, .inr (.inl be))), (rA 7, .inl (cI, 60, .inl bd)), (tA 0, .inr (2, [.ref (tA 1), .ref (tA 2), .ref (tA 3), .ref (tA 4), .ref (tA 5), .ref (tA 6), .ref (tA 7), .ref (tA 8), .long bu, .int ct])), (tA 4, .inl (cI, 60, .inl sg)), (tA 5, .inl (cI, 60, .inl fa)), (tA 6, .inl (cI, 60, .inl fb)), (tA 7, .inl (cI, 60, .inl fc))] s.heap.size = A at hD ⊢
  have hA : ∀ q : Nat, s.heap.size ≤ q → A q := fun q h => by rw [← hAe]; exact Or.inr h
  have hS : va_S A s.heap s.heap [] := va_S.rf
  have hP : va_P (dC, dI) vwCl [(rA 0, .inr (1, [.ref (tA 0), .ref (rA 1), .ref (rA 2), .ref (rA 3), .ref (rA 4), .ref (rA 5), .ref (rA 6), .ref (rA 7), .long un, .int mi])), (rA 1, .inl (cI, 60, .inl nm)), (rA 2, .inl (cJ, 60, .inr (.inl me))), (rA 3, .inl (cJ, 60, .inr (.inl fu))), (rA 4, .inl (cJ, 60, .inr (.inl su))), (rA 5, .inl (cJ, 60, .inr (.inl tu))), (rA 6, .inl (cJ, 60, .inr (.inl be))), (rA 7, .inl (cI, 60, .inl bd)), (tA 0, .inr (2, [.ref (tA 1), .ref (tA 2), .ref (tA 3), .ref (tA 4), .ref (tA 5), .ref (tA 6), .ref (tA 7), .ref (tA 8), .long bu, .int ct])), (tA 4, .inl (cI, 60, .inl sg)), (tA 5, .inl (cI, 60, .inl fa)), (tA 6, .inl (cI, 60, .inl fb)), (tA 7, .inl (cI, 60, .inl fc))] s.heap := hP
  have hl := lv_entry ([.ref (rA 0), .int (nI t)]) (n := 3) (Nat.le_of_ble_eq_true rfl)
  rw [lg_entry_eq]
  generalize (lg_sl ([.ref (rA 0), .int (nI t)]) ++ List.replicate (3 - (lg_sl ([.ref (rA 0), .int (nI t)])).length) Slot.unset).toArray = ls at hl ⊢
  have hl : lv_has ls 3 [(0, .ref (rA 0)), (1, .int (nI t))] := hl
  refine lv_aload_n hx hb dX1_addAlone_0 rfl (lv_at hl 0 rfl) ?_
  refine va_get (D := (dC, dI)) (ci := 1) (v := .ref (tA 0)) (C := RX1) (T := TX1) (N := 10) hx hb hts (fun w h => woX1_addAlone w (inX1 w h)) hown hK hP 0 rfl rfl 0 (by decide) (hts _ (woX1_addAlone _ wd_108)) (fun _ h9 => h9) rfl dX1_addAlone_1 ?_
  refine lv_iload_n hx hb dX1_addAlone_4 rfl (lv_at hl 1 rfl) ?_
  have hPc := hP.sub (ws' := [(tA 0, .inr (2, [.ref (tA 1), .ref (tA 2), .ref (tA 3), .ref (tA 4), .ref (tA 5), .ref (tA 6), .ref (tA 7), .ref (tA 8), .long bu, .int ct]))]) [8] rfl
  refine vp_callSi (W.runV (As := [.int (nI t)]) (rest := []) ⟨hx, hb, hml, hown, hts⟩ (c_isBuilt l dC dI cI cJ cZ tA bu ct t (by omega)) (cwV 1 hts (w0_goodV woX1_addAlone wd_232 wd_229 wd_230 wd_231 wd_2) rfl rfl rfl (by decide +kernel) ⟨Nat.le_of_ble_eq_true rfl, Nat.le_of_ble_eq_true rfl⟩) ⟨fun a U g mk q => by obtain ⟨q0, qP, qK⟩ := q; exact ⟨q0, qP, va_K.moved (u := U) (U := U.calling g mk a) (Vm.Alike.refl U.vm) qK⟩, va_recv hK hP (ci := 2) (q0 := 8) rfl rfl, fun U hU hW => ⟨rfl, by rw [hU]; exact hPc, va_K.moved hW.alike hK⟩⟩ rfl rfl hl.1 rfl (lv_room (Nat.le_of_ble_eq_true rfl)) dX1_addAlone_5 ⟨Nat.zero_le _, Nat.zero_le _⟩) (fun r hr1 => ?_)
  rcases hr1 with ⟨e1, hbt⟩ | ⟨e1, hbt⟩
  · subst e1
    refine lv_istore_n (lv' := [(2, .int 1), (0, .ref (rA 0)), (1, .int (nI t))]) hx hb dX1_addAlone_8 rfl hl (by decide) rfl (fun ls hl => ?_)
    refine lv_aload_n hx hb dX1_addAlone_9 rfl (lv_at hl 1 rfl) ?_
    refine va_get (D := (dC, dI)) (ci := 1) (v := .ref (rA 1)) (C := RX1) (T := TX1) (N := 10) hx hb hts (fun w h => woX1_addAlone w (inX1 w h)) hown hK hP 0 rfl rfl 1 (by decide) (hts _ (woX1_addAlone _ wd_109)) (fun _ h9 => h9) rfl dX1_addAlone_10 ?_
    refine lv_iload_n hx hb dX1_addAlone_13 rfl (lv_at hl 2 rfl) ?_
    refine lv_iload_n hx hb dX1_addAlone_14 rfl (lv_at hl 2 rfl) ?_
    refine va_iast hx hb hK hP hD hS 1 0 rfl rfl (vp_in_nI (by omega) (by omega)) dX1_addAlone_15 (fun H locs hP hD hS => ?_)
    rw [show (nI t).toNatClampNeg = t from nI_clamp (by omega)] at hP hD
    have hP : va_P (dC, dI) vwCl [(rA 0, .inr (1, [.ref (tA 0), .ref (rA 1), .ref (rA 2), .ref (rA 3), .ref (rA 4), .ref (rA 5), .ref (rA 6), .ref (rA 7), .long un, .int mi])), (rA 1, .inl (cI, 60, .inl (upd nm t (nI t)))), (rA 2, .inl (cJ, 60, .inr (.inl me))), (rA 3, .inl (cJ, 60, .inr (.inl fu))), (rA 4, .inl (cJ, 60, .inr (.inl su))), (rA 5, .inl (cJ, 60, .inr (.inl tu))), (rA 6, .inl (cJ, 60, .inr (.inl be))), (rA 7, .inl (cI, 60, .inl bd)), (tA 0, .inr (2, [.ref (tA 1), .ref (tA 2), .ref (tA 3), .ref (tA 4), .ref (tA 5), .ref (tA 6), .ref (tA 7), .ref (tA 8), .long bu, .int ct])), (tA 4, .inl (cI, 60, .inl sg)), (tA 5, .inl (cI, 60, .inl fa)), (tA 6, .inl (cI, 60, .inl fb)), (tA 7, .inl (cI, 60, .inl fc))] H := hP
    have hD : va_D A [(rA 0, .inr (1, [.ref (tA 0), .ref (rA 1), .ref (rA 2), .ref (rA 3), .ref (rA 4), .ref (rA 5), .ref (rA 6), .ref (rA 7), .long un, .int mi])), (rA 1, .inl (cI, 60, .inl (upd nm t (nI t)))), (rA 2, .inl (cJ, 60, .inr (.inl me))), (rA 3, .inl (cJ, 60, .inr (.inl fu))), (rA 4, .inl (cJ, 60, .inr (.inl su))), (rA 5, .inl (cJ, 60, .inr (.inl tu))), (rA 6, .inl (cJ, 60, .inr (.inl be))), (rA 7, .inl (cI, 60, .inl bd)), (tA 0, .inr (2, [.ref (tA 1), .ref (tA 2), .ref (tA 3), .ref (tA 4), .ref (tA 5), .ref (tA 6), .ref (tA 7), .ref (tA 8), .long bu, .int ct])), (tA 4, .inl (cI, 60, .inl sg)), (tA 5, .inl (cI, 60, .inl fa)), (tA 6, .inl (cI, 60, .inl fb)), (tA 7, .inl (cI, 60, .inl fc))] := hD
    refine lv_aload_n hx hb dX1_addAlone_16 rfl (lv_at hl 1 rfl) ?_
    refine va_get (D := (dC, dI)) (ci := 1) (v := .ref (rA 2)) (C := RX1) (T := TX1) (N := 10) hx hb hts (fun w h => woX1_addAlone w (inX1 w h)) hown hK hP 0 rfl rfl 2 (by decide) (hts _ (woX1_addAlone _ wd_111)) (fun _ h9 => h9) rfl dX1_addAlone_17 ?_
    refine lv_iload_n hx hb dX1_addAlone_20 rfl (lv_at hl 2 rfl) ?_
    refine lv_lconst (v := 1) hx hb dX1_addAlone_21 (by decide) ?_
    refine lv_iload_n hx hb dX1_addAlone_22 rfl (lv_at hl 2 rfl) ?_
    refine lv_lshl (v := (1 : Int64) <<< ((nI t).toInt64 &&& 63)) hx hb dX1_addAlone_23 rfl ?_
    refine va_last hx hb hK hP hD hS 2 1 rfl rfl (vp_in_nI (by omega) (by omega)) dX1_addAlone_24 (fun H locs hP hD hS => ?_)
    rw [show (nI t).toNatClampNeg = t from nI_clamp (by omega)] at hP hD
    have hP : va_P (dC, dI) vwCl [(rA 0, .inr (1, [.ref (tA 0), .ref (rA 1), .ref (rA 2), .ref (rA 3), .ref (rA 4), .ref (rA 5), .ref (rA 6), .ref (rA 7), .long un, .int mi])), (rA 1, .inl (cI, 60, .inl (upd nm t (nI t)))), (rA 2, .inl (cJ, 60, .inr (.inl (vp_updL me t ((1 : Int64) <<< ((nI t).toInt64 &&& 63)))))), (rA 3, .inl (cJ, 60, .inr (.inl fu))), (rA 4, .inl (cJ, 60, .inr (.inl su))), (rA 5, .inl (cJ, 60, .inr (.inl tu))), (rA 6, .inl (cJ, 60, .inr (.inl be))), (rA 7, .inl (cI, 60, .inl bd)), (tA 0, .inr (2, [.ref (tA 1), .ref (tA 2), .ref (tA 3), .ref (tA 4), .ref (tA 5), .ref (tA 6), .ref (tA 7), .ref (tA 8), .long bu, .int ct])), (tA 4, .inl (cI, 60, .inl sg)), (tA 5, .inl (cI, 60, .inl fa)), (tA 6, .inl (cI, 60, .inl fb)), (tA 7, .inl (cI, 60, .inl fc))] H := hP
    have hD : va_D A [(rA 0, .inr (1, [.ref (tA 0), .ref (rA 1), .ref (rA 2), .ref (rA 3), .ref (rA 4), .ref (rA 5), .ref (rA 6), .ref (rA 7), .long un, .int mi])), (rA 1, .inl (cI, 60, .inl (upd nm t (nI t)))), (rA 2, .inl (cJ, 60, .inr (.inl (vp_updL me t ((1 : Int64) <<< ((nI t).toInt64 &&& 63)))))), (rA 3, .inl (cJ, 60, .inr (.inl fu))), (rA 4, .inl (cJ, 60, .inr (.inl su))), (rA 5, .inl (cJ, 60, .inr (.inl tu))), (rA 6, .inl (cJ, 60, .inr (.inl be))), (rA 7, .inl (cI, 60, .inl bd)), (tA 0, .inr (2, [.ref (tA 1), .ref (tA 2), .ref (tA 3), .ref (tA 4), .ref (tA 5), .ref (tA 6), .ref (tA 7), .ref (tA 8), .long bu, .int ct])), (tA 4, .inl (cI, 60, .inl sg)), (tA 5, .inl (cI, 60, .inl fa)), (tA 6, .inl (cI, 60, .inl fb)), (tA 7, .inl (cI, 60, .inl fc))] := hD
    refine lv_aload_n hx hb dX1_addAlone_25 rfl (lv_at hl 1 rfl) ?_
    refine va_get (D := (dC, dI)) (ci := 1) (v := .ref (rA 7)) (C := RX1) (T := TX1) (N := 10) hx hb hts (fun w h => woX1_addAlone w (inX1 w h)) hown hK hP 0 rfl rfl 7 (by decide) (hts _ (woX1_addAlone _ wd_117)) (fun _ h9 => h9) rfl dX1_addAlone_26 ?_
    refine lv_iload_n hx hb dX1_addAlone_29 rfl (lv_at hl 2 rfl) ?_
    refine lv_iload_n hx hb dX1_addAlone_30 rfl (lv_at hl 0 rfl) ?_
    refine lv_if_eq (tgt := 46) hx hb dX1_addAlone_31 (by decide) (fun c1 => ?_) (fun c1 => ?_)
    · exact absurd c1 (by decide)
    · refine lv_aload_n hx hb dX1_addAlone_34 rfl (lv_at hl 1 rfl) ?_
      refine va_get (D := (dC, dI)) (ci := 1) (v := .ref (tA 0)) (C := RX1) (T := TX1) (N := 10) hx hb hts (fun w h => woX1_addAlone w (inX1 w h)) hown hK hP 0 rfl rfl 0 (by decide) (hts _ (woX1_addAlone _ wd_108)) (fun _ h9 => h9) rfl dX1_addAlone_35 ?_
      refine va_get (D := (dC, dI)) (ci := 2) (v := .ref (tA 4)) (C := RX2) (T := TX2) (N := 10) hx hb hts (fun w h => woX1_addAlone w (inX2 w h)) hown hK hP 8 rfl rfl 3 (by decide) (hts _ (woX1_addAlone _ wd_36)) (fun _ h9 => h9) rfl dX1_addAlone_38 ?_
      refine lv_iload_n hx hb dX1_addAlone_41 rfl (lv_at hl 2 rfl) ?_
      refine va_iald hx hb hK hP 9 0 rfl rfl (vp_in_nI (by omega) (by omega)) dX1_addAlone_42 ?_
      rw [show (nI t).toNatClampNeg = t from nI_clamp (by omega)]
      rw [esg]
      refine lv_goto (tgt := 47) hx hb dX1_addAlone_43 (by decide) ?_
      refine va_iast hx hb hK hP hD hS 7 0 rfl rfl (vp_in_nI (by omega) (by omega)) dX1_addAlone_47 (fun H locs hP hD hS => ?_)
      rw [show (nI t).toNatClampNeg = t from nI_clamp (by omega)] at hP hD
      have hP : va_P (dC, dI) vwCl [(rA 0, .inr (1, [.ref (tA 0), .ref (rA 1), .ref (rA 2), .ref (rA 3), .ref (rA 4), .ref (rA 5), .ref (rA 6), .ref (rA 7), .long un, .int mi])), (rA 1, .inl (cI, 60, .inl (upd nm t (nI t)))), (rA 2, .inl (cJ, 60, .inr (.inl (vp_updL me t ((1 : Int64) <<< ((nI t).toInt64 &&& 63)))))), (rA 3, .inl (cJ, 60, .inr (.inl fu))), (rA 4, .inl (cJ, 60, .inr (.inl su))), (rA 5, .inl (cJ, 60, .inr (.inl tu))), (rA 6, .inl (cJ, 60, .inr (.inl be))), (rA 7, .inl (cI, 60, .inl (upd bd t (nI s0)))), (tA 0, .inr (2, [.ref (tA 1), .ref (tA 2), .ref (tA 3), .ref (tA 4), .ref (tA 5), .ref (tA 6), .ref (tA 7), .ref (tA 8), .long bu, .int ct])), (tA 4, .inl (cI, 60, .inl sg)), (tA 5, .inl (cI, 60, .inl fa)), (tA 6, .inl (cI, 60, .inl fb)), (tA 7, .inl (cI, 60, .inl fc))] H := hP
      have hD : va_D A [(rA 0, .inr (1, [.ref (tA 0), .ref (rA 1), .ref (rA 2), .ref (rA 3), .ref (rA 4), .ref (rA 5), .ref (rA 6), .ref (rA 7), .long un, .int mi])), (rA 1, .inl (cI, 60, .inl (upd nm t (nI t)))), (rA 2, .inl (cJ, 60, .inr (.inl (vp_updL me t ((1 : Int64) <<< ((nI t).toInt64 &&& 63)))))), (rA 3, .inl (cJ, 60, .inr (.inl fu))), (rA 4, .inl (cJ, 60, .inr (.inl su))), (rA 5, .inl (cJ, 60, .inr (.inl tu))), (rA 6, .inl (cJ, 60, .inr (.inl be))), (rA 7, .inl (cI, 60, .inl (upd bd t (nI s0)))), (tA 0, .inr (2, [.ref (tA 1), .ref (tA 2), .ref (tA 3), .ref (tA 4), .ref (tA 5), .ref (tA 6), .ref (tA 7), .ref (tA 8), .long bu, .int ct])), (tA 4, .inl (cI, 60, .inl sg)), (tA 5, .inl (cI, 60, .inl fa)), (tA 6, .inl (cI, 60, .inl fb)), (tA 7, .inl (cI, 60, .inl fc))] := hD
      refine lv_aload_n hx hb dX1_addAlone_48 rfl (lv_at hl 1 rfl) ?_
      refine va_get (D := (dC, dI)) (ci := 1) (v := .ref (rA 3)) (C := RX1) (T := TX1) (N := 10) hx hb hts (fun w h => woX1_addAlone w (inX1 w h)) hown hK hP 0 rfl rfl 3 (by decide) (hts _ (woX1_addAlone _ wd_113)) (fun _ h9 => h9) rfl dX1_addAlone_49 ?_
      refine lv_aload_n hx hb dX1_addAlone_52 rfl (lv_at hl 1 rfl) ?_
      refine va_get (D := (dC, dI)) (ci := 1) (v := .ref (tA 0)) (C := RX1) (T := TX1) (N := 10) hx hb hts (fun w h => woX1_addAlone w (inX1 w h)) hown hK hP 0 rfl rfl 0 (by decide) (hts _ (woX1_addAlone _ wd_108)) (fun _ h9 => h9) rfl dX1_addAlone_53 ?_
      refine va_get (D := (dC, dI)) (ci := 2) (v := .ref (tA 5)) (C := RX2) (T := TX2) (N := 10) hx hb hts (fun w h => woX1_addAlone w (inX2 w h)) hown hK hP 8 rfl rfl 4 (by decide) (hts _ (woX1_addAlone _ wd_39)) (fun _ h9 => h9) rfl dX1_addAlone_56 ?_
      refine lv_iload_n hx hb dX1_addAlone_59 rfl (lv_at hl 2 rfl) ?_
      refine va_iald hx hb hK hP 10 0 rfl rfl (vp_in_nI (by omega) (by omega)) dX1_addAlone_60 ?_
      rw [show (nI t).toNatClampNeg = t from nI_clamp (by omega)]
      rw [efa]
      refine lv_iload_n hx hb dX1_addAlone_61 rfl (lv_at hl 2 rfl) ?_
      have hPc := hP.sub (ws' := [(rA 3, .inl (cJ, 60, .inr (.inl fu)))]) [3] rfl
      have hDc := hD.sub (ws' := [(rA 3, .inl (cJ, 60, .inr (.inl fu)))]) [3] (by decide) rfl
      have hFc := va_free (wc := [(rA 3, .inl (cJ, 60, .inr (.inl fu)))]) hD hS hA [3] rfl
      refine va_callv (va_runS (As := [.ref (rA 3), .int (mx_enc qa), .int (nI t)]) (rest := []) ⟨hx, hb, hml, hown, hts⟩ (c_use l dC dI cI cJ cZ (rA 3) fu qa t H.size hqa) (va_cwS 3 hts (w0_goodS woX1_addAlone wd_434 wd_432 wd_433 wd_4) rfl rfl rfl (by decide +kernel) ⟨Nat.le_of_ble_eq_true rfl, Nat.le_of_ble_eq_true rfl⟩) ⟨fun a U g mk q => by obtain ⟨q0, q1, qP, qK, qD⟩ := q; exact ⟨q0, q1, qP, va_K.moved (u := U) (U := U.calling g mk a) (Vm.Alike.refl U.vm) qK, qD⟩, fun U hU hW => ⟨rfl, by rw [hU], by rw [hU]; exact hPc, va_K.moved hW.alike hK, hDc.weaken (fun _ _ _ _ => trivial)⟩⟩ rfl rfl hl.1 rfl (lv_room (Nat.le_of_ble_eq_true rfl)) dX1_addAlone_62 ⟨Nat.zero_le _, Nat.zero_le _⟩) hS (fun q _ h => hFc q h) hFc (fun u t8 H1 locs ht8 hvm hu hB hz1 hk1 hS => ?_)
      obtain ⟨__1, rfl⟩ : ∃ z, z = u := ⟨_, rfl⟩
      obtain ⟨hP1, hK1, hD1⟩ := hB
      rw [ht8] at hP1
      try dsimp only at hu
      obtain ⟨hP, hD⟩ := va_join (wr := [(rA 0, .inr (1, [.ref (tA 0), .ref (rA 1), .ref (rA 2), .ref (rA 3), .ref (rA 4), .ref (rA 5), .ref (rA 6), .ref (rA 7), .long un, .int mi])), (rA 1, .inl (cI, 60, .inl (upd nm t (nI t)))), (rA 2, .inl (cJ, 60, .inr (.inl (vp_updL me t ((1 : Int64) <<< ((nI t).toInt64 &&& 63)))))), (rA 4, .inl (cJ, 60, .inr (.inl su))), (rA 5, .inl (cJ, 60, .inr (.inl tu))), (rA 6, .inl (cJ, 60, .inr (.inl be))), (rA 7, .inl (cI, 60, .inl (upd bd t (nI s0)))), (tA 0, .inr (2, [.ref (tA 1), .ref (tA 2), .ref (tA 3), .ref (tA 4), .ref (tA 5), .ref (tA 6), .ref (tA 7), .ref (tA 8), .long bu, .int ct])), (tA 4, .inl (cI, 60, .inl sg)), (tA 5, .inl (cI, 60, .inl fa)), (tA 6, .inl (cI, 60, .inl fb)), (tA 7, .inl (cI, 60, .inl fc))]) (w1 := [(rA 3, .inl (cJ, 60, .inr (.inl (us_add fu qa t))))]) hP hD [3] [0, 1, 2, 4, 5, 6, 7, 8, 9, 10, 11, 12] rfl rfl (by decide) (by decide) hk1 hFc hP1 hD1
      have hP := hP.sub (ws' := [(rA 0, .inr (1, [.ref (tA 0), .ref (rA 1), .ref (rA 2), .ref (rA 3), .ref (rA 4), .ref (rA 5), .ref (rA 6), .ref (rA 7), .long un, .int mi])), (rA 1, .inl (cI, 60, .inl (upd nm t (nI t)))), (rA 2, .inl (cJ, 60, .inr (.inl (vp_updL me t ((1 : Int64) <<< ((nI t).toInt64 &&& 63)))))), (rA 3, .inl (cJ, 60, .inr (.inl (us_add fu qa t)))), (rA 4, .inl (cJ, 60, .inr (.inl su))), (rA 5, .inl (cJ, 60, .inr (.inl tu))), (rA 6, .inl (cJ, 60, .inr (.inl be))), (rA 7, .inl (cI, 60, .inl (upd bd t (nI s0)))), (tA 0, .inr (2, [.ref (tA 1), .ref (tA 2), .ref (tA 3), .ref (tA 4), .ref (tA 5), .ref (tA 6), .ref (tA 7), .ref (tA 8), .long bu, .int ct])), (tA 4, .inl (cI, 60, .inl sg)), (tA 5, .inl (cI, 60, .inl fa)), (tA 6, .inl (cI, 60, .inl fb)), (tA 7, .inl (cI, 60, .inl fc))]) [0, 1, 2, 12, 3, 4, 5, 6, 7, 8, 9, 10, 11] rfl
      have hD := hD.sub (ws' := [(rA 0, .inr (1, [.ref (tA 0), .ref (rA 1), .ref (rA 2), .ref (rA 3), .ref (rA 4), .ref (rA 5), .ref (rA 6), .ref (rA 7), .long un, .int mi])), (rA 1, .inl (cI, 60, .inl (upd nm t (nI t)))), (rA 2, .inl (cJ, 60, .inr (.inl (vp_updL me t ((1 : Int64) <<< ((nI t).toInt64 &&& 63)))))), (rA 3, .inl (cJ, 60, .inr (.inl (us_add fu qa t)))), (rA 4, .inl (cJ, 60, .inr (.inl su))), (rA 5, .inl (cJ, 60, .inr (.inl tu))), (rA 6, .inl (cJ, 60, .inr (.inl be))), (rA 7, .inl (cI, 60, .inl (upd bd t (nI s0)))), (tA 0, .inr (2, [.ref (tA 1), .ref (tA 2), .ref (tA 3), .ref (tA 4), .ref (tA 5), .ref (tA 6), .ref (tA 7), .ref (tA 8), .long bu, .int ct])), (tA 4, .inl (cI, 60, .inl sg)), (tA 5, .inl (cI, 60, .inl fa)), (tA 6, .inl (cI, 60, .inl fb)), (tA 7, .inl (cI, 60, .inl fc))]) [0, 1, 2, 12, 3, 4, 5, 6, 7, 8, 9, 10, 11] (by decide) rfl
      generalize H1 = H at hP hS ⊢
      refine lv_aload_n hx hb dX1_addAlone_65 rfl (lv_at hl 1 rfl) ?_
      refine va_get (D := (dC, dI)) (ci := 1) (v := .ref (rA 4)) (C := RX1) (T := TX1) (N := 10) hx hb hts (fun w h => woX1_addAlone w (inX1 w h)) hown hK hP 0 rfl rfl 4 (by decide) (hts _ (woX1_addAlone _ wd_114)) (fun _ h9 => h9) rfl dX1_addAlone_66 ?_
      refine lv_aload_n hx hb dX1_addAlone_69 rfl (lv_at hl 1 rfl) ?_
      refine va_get (D := (dC, dI)) (ci := 1) (v := .ref (tA 0)) (C := RX1) (T := TX1) (N := 10) hx hb hts (fun w h => woX1_addAlone w (inX1 w h)) hown hK hP 0 rfl rfl 0 (by decide) (hts _ (woX1_addAlone _ wd_108)) (fun _ h9 => h9) rfl dX1_addAlone_70 ?_
      refine va_get (D := (dC, dI)) (ci := 2) (v := .ref (tA 6)) (C := RX2) (T := TX2) (N := 10) hx hb hts (fun w h => woX1_addAlone w (inX2 w h)) hown hK hP 8 rfl rfl 5 (by decide) (hts _ (woX1_addAlone _ wd_42)) (fun _ h9 => h9) rfl dX1_addAlone_73 ?_
      refine lv_iload_n hx hb dX1_addAlone_76 rfl (lv_at hl 2 rfl) ?_
      refine va_iald hx hb hK hP 11 0 rfl rfl (vp_in_nI (by omega) (by omega)) dX1_addAlone_77 ?_
      rw [show (nI t).toNatClampNeg = t from nI_clamp (by omega)]
      rw [efb]
      refine lv_iload_n hx hb dX1_addAlone_78 rfl (lv_at hl 2 rfl) ?_
      have hPc := hP.sub (ws' := [(rA 4, .inl (cJ, 60, .inr (.inl su)))]) [4] rfl
      have hDc := hD.sub (ws' := [(rA 4, .inl (cJ, 60, .inr (.inl su)))]) [4] (by decide) rfl
      have hFc := va_free (wc := [(rA 4, .inl (cJ, 60, .inr (.inl su)))]) hD hS hA [4] rfl
      refine va_callv (va_runS (As := [.ref (rA 4), .int (mx_enc qb), .int (nI t)]) (rest := []) ⟨hx, hb, hml, hown, hts⟩ (c_use l dC dI cI cJ cZ (rA 4) su qb t H.size hqb) (va_cwS 3 hts (w0_goodS woX1_addAlone wd_434 wd_432 wd_433 wd_4) rfl rfl rfl (by decide +kernel) ⟨Nat.le_of_ble_eq_true rfl, Nat.le_of_ble_eq_true rfl⟩) ⟨fun a U g mk q => by obtain ⟨q0, q1, qP, qK, qD⟩ := q; exact ⟨q0, q1, qP, va_K.moved (u := U) (U := U.calling g mk a) (Vm.Alike.refl U.vm) qK, qD⟩, fun U hU hW => ⟨rfl, by rw [hU], by rw [hU]; exact hPc, va_K.moved hW.alike hK, hDc.weaken (fun _ _ _ _ => trivial)⟩⟩ rfl rfl hl.1 rfl (lv_room (Nat.le_of_ble_eq_true rfl)) dX1_addAlone_79 ⟨Nat.zero_le _, Nat.zero_le _⟩) hS (fun q _ h => hFc q h) hFc (fun u t8 H1 locs ht8 hvm hu hB hz1 hk1 hS => ?_)
      obtain ⟨__2, rfl⟩ : ∃ z, z = u := ⟨_, rfl⟩
      obtain ⟨hP1, hK1, hD1⟩ := hB
      rw [ht8] at hP1
      try dsimp only at hu
      obtain ⟨hP, hD⟩ := va_join (wr := [(rA 0, .inr (1, [.ref (tA 0), .ref (rA 1), .ref (rA 2), .ref (rA 3), .ref (rA 4), .ref (rA 5), .ref (rA 6), .ref (rA 7), .long un, .int mi])), (rA 1, .inl (cI, 60, .inl (upd nm t (nI t)))), (rA 2, .inl (cJ, 60, .inr (.inl (vp_updL me t ((1 : Int64) <<< ((nI t).toInt64 &&& 63)))))), (rA 3, .inl (cJ, 60, .inr (.inl (us_add fu qa t)))), (rA 5, .inl (cJ, 60, .inr (.inl tu))), (rA 6, .inl (cJ, 60, .inr (.inl be))), (rA 7, .inl (cI, 60, .inl (upd bd t (nI s0)))), (tA 0, .inr (2, [.ref (tA 1), .ref (tA 2), .ref (tA 3), .ref (tA 4), .ref (tA 5), .ref (tA 6), .ref (tA 7), .ref (tA 8), .long bu, .int ct])), (tA 4, .inl (cI, 60, .inl sg)), (tA 5, .inl (cI, 60, .inl fa)), (tA 6, .inl (cI, 60, .inl fb)), (tA 7, .inl (cI, 60, .inl fc))]) (w1 := [(rA 4, .inl (cJ, 60, .inr (.inl (us_add su qb t))))]) hP hD [4] [0, 1, 2, 3, 5, 6, 7, 8, 9, 10, 11, 12] rfl rfl (by decide) (by decide) hk1 hFc hP1 hD1
      have hP := hP.sub (ws' := [(rA 0, .inr (1, [.ref (tA 0), .ref (rA 1), .ref (rA 2), .ref (rA 3), .ref (rA 4), .ref (rA 5), .ref (rA 6), .ref (rA 7), .long un, .int mi])), (rA 1, .inl (cI, 60, .inl (upd nm t (nI t)))), (rA 2, .inl (cJ, 60, .inr (.inl (vp_updL me t ((1 : Int64) <<< ((nI t).toInt64 &&& 63)))))), (rA 3, .inl (cJ, 60, .inr (.inl (us_add fu qa t)))), (rA 4, .inl (cJ, 60, .inr (.inl (us_add su qb t)))), (rA 5, .inl (cJ, 60, .inr (.inl tu))), (rA 6, .inl (cJ, 60, .inr (.inl be))), (rA 7, .inl (cI, 60, .inl (upd bd t (nI s0)))), (tA 0, .inr (2, [.ref (tA 1), .ref (tA 2), .ref (tA 3), .ref (tA 4), .ref (tA 5), .ref (tA 6), .ref (tA 7), .ref (tA 8), .long bu, .int ct])), (tA 4, .inl (cI, 60, .inl sg)), (tA 5, .inl (cI, 60, .inl fa)), (tA 6, .inl (cI, 60, .inl fb)), (tA 7, .inl (cI, 60, .inl fc))]) [0, 1, 2, 3, 12, 4, 5, 6, 7, 8, 9, 10, 11] rfl
      have hD := hD.sub (ws' := [(rA 0, .inr (1, [.ref (tA 0), .ref (rA 1), .ref (rA 2), .ref (rA 3), .ref (rA 4), .ref (rA 5), .ref (rA 6), .ref (rA 7), .long un, .int mi])), (rA 1, .inl (cI, 60, .inl (upd nm t (nI t)))), (rA 2, .inl (cJ, 60, .inr (.inl (vp_updL me t ((1 : Int64) <<< ((nI t).toInt64 &&& 63)))))), (rA 3, .inl (cJ, 60, .inr (.inl (us_add fu qa t)))), (rA 4, .inl (cJ, 60, .inr (.inl (us_add su qb t)))), (rA 5, .inl (cJ, 60, .inr (.inl tu))), (rA 6, .inl (cJ, 60, .inr (.inl be))), (rA 7, .inl (cI, 60, .inl (upd bd t (nI s0)))), (tA 0, .inr (2, [.ref (tA 1), .ref (tA 2), .ref (tA 3), .ref (tA 4), .ref (tA 5), .ref (tA 6), .ref (tA 7), .ref (tA 8), .long bu, .int ct])), (tA 4, .inl (cI, 60, .inl sg)), (tA 5, .inl (cI, 60, .inl fa)), (tA 6, .inl (cI, 60, .inl fb)), (tA 7, .inl (cI, 60, .inl fc))]) [0, 1, 2, 3, 12, 4, 5, 6, 7, 8, 9, 10, 11] (by decide) rfl
      generalize H1 = H at hP hS ⊢
      refine lv_aload_n hx hb dX1_addAlone_82 rfl (lv_at hl 1 rfl) ?_
      refine va_get (D := (dC, dI)) (ci := 1) (v := .ref (rA 5)) (C := RX1) (T := TX1) (N := 10) hx hb hts (fun w h => woX1_addAlone w (inX1 w h)) hown hK hP 0 rfl rfl 5 (by decide) (hts _ (woX1_addAlone _ wd_115)) (fun _ h9 => h9) rfl dX1_addAlone_83 ?_
      refine lv_aload_n hx hb dX1_addAlone_86 rfl (lv_at hl 1 rfl) ?_
      refine va_get (D := (dC, dI)) (ci := 1) (v := .ref (tA 0)) (C := RX1) (T := TX1) (N := 10) hx hb hts (fun w h => woX1_addAlone w (inX1 w h)) hown hK hP 0 rfl rfl 0 (by decide) (hts _ (woX1_addAlone _ wd_108)) (fun _ h9 => h9) rfl dX1_addAlone_87 ?_
      refine va_get (D := (dC, dI)) (ci := 2) (v := .ref (tA 7)) (C := RX2) (T := TX2) (N := 10) hx hb hts (fun w h => woX1_addAlone w (inX2 w h)) hown hK hP 8 rfl rfl 6 (by decide) (hts _ (woX1_addAlone _ wd_45)) (fun _ h9 => h9) rfl dX1_addAlone_90 ?_
      refine lv_iload_n hx hb dX1_addAlone_93 rfl (lv_at hl 2 rfl) ?_
      refine va_iald hx hb hK hP 12 0 rfl rfl (vp_in_nI (by omega) (by omega)) dX1_addAlone_94 ?_
      rw [show (nI t).toNatClampNeg = t from nI_clamp (by omega)]
      rw [efc]
      refine lv_iload_n hx hb dX1_addAlone_95 rfl (lv_at hl 2 rfl) ?_
      have hPc := hP.sub (ws' := [(rA 5, .inl (cJ, 60, .inr (.inl tu)))]) [5] rfl
      have hDc := hD.sub (ws' := [(rA 5, .inl (cJ, 60, .inr (.inl tu)))]) [5] (by decide) rfl
      have hFc := va_free (wc := [(rA 5, .inl (cJ, 60, .inr (.inl tu)))]) hD hS hA [5] rfl
      refine va_callv (va_runS (As := [.ref (rA 5), .int (mx_enc qc), .int (nI t)]) (rest := []) ⟨hx, hb, hml, hown, hts⟩ (c_use l dC dI cI cJ cZ (rA 5) tu qc t H.size hqc) (va_cwS 3 hts (w0_goodS woX1_addAlone wd_434 wd_432 wd_433 wd_4) rfl rfl rfl (by decide +kernel) ⟨Nat.le_of_ble_eq_true rfl, Nat.le_of_ble_eq_true rfl⟩) ⟨fun a U g mk q => by obtain ⟨q0, q1, qP, qK, qD⟩ := q; exact ⟨q0, q1, qP, va_K.moved (u := U) (U := U.calling g mk a) (Vm.Alike.refl U.vm) qK, qD⟩, fun U hU hW => ⟨rfl, by rw [hU], by rw [hU]; exact hPc, va_K.moved hW.alike hK, hDc.weaken (fun _ _ _ _ => trivial)⟩⟩ rfl rfl hl.1 rfl (lv_room (Nat.le_of_ble_eq_true rfl)) dX1_addAlone_96 ⟨Nat.zero_le _, Nat.zero_le _⟩) hS (fun q _ h => hFc q h) hFc (fun u t8 H1 locs ht8 hvm hu hB hz1 hk1 hS => ?_)
      obtain ⟨__3, rfl⟩ : ∃ z, z = u := ⟨_, rfl⟩
      obtain ⟨hP1, hK1, hD1⟩ := hB
      rw [ht8] at hP1
      try dsimp only at hu
      obtain ⟨hP, hD⟩ := va_join (wr := [(rA 0, .inr (1, [.ref (tA 0), .ref (rA 1), .ref (rA 2), .ref (rA 3), .ref (rA 4), .ref (rA 5), .ref (rA 6), .ref (rA 7), .long un, .int mi])), (rA 1, .inl (cI, 60, .inl (upd nm t (nI t)))), (rA 2, .inl (cJ, 60, .inr (.inl (vp_updL me t ((1 : Int64) <<< ((nI t).toInt64 &&& 63)))))), (rA 3, .inl (cJ, 60, .inr (.inl (us_add fu qa t)))), (rA 4, .inl (cJ, 60, .inr (.inl (us_add su qb t)))), (rA 6, .inl (cJ, 60, .inr (.inl be))), (rA 7, .inl (cI, 60, .inl (upd bd t (nI s0)))), (tA 0, .inr (2, [.ref (tA 1), .ref (tA 2), .ref (tA 3), .ref (tA 4), .ref (tA 5), .ref (tA 6), .ref (tA 7), .ref (tA 8), .long bu, .int ct])), (tA 4, .inl (cI, 60, .inl sg)), (tA 5, .inl (cI, 60, .inl fa)), (tA 6, .inl (cI, 60, .inl fb)), (tA 7, .inl (cI, 60, .inl fc))]) (w1 := [(rA 5, .inl (cJ, 60, .inr (.inl (us_add tu qc t))))]) hP hD [5] [0, 1, 2, 3, 4, 6, 7, 8, 9, 10, 11, 12] rfl rfl (by decide) (by decide) hk1 hFc hP1 hD1
      have hP := hP.sub (ws' := [(rA 0, .inr (1, [.ref (tA 0), .ref (rA 1), .ref (rA 2), .ref (rA 3), .ref (rA 4), .ref (rA 5), .ref (rA 6), .ref (rA 7), .long un, .int mi])), (rA 1, .inl (cI, 60, .inl (upd nm t (nI t)))), (rA 2, .inl (cJ, 60, .inr (.inl (vp_updL me t ((1 : Int64) <<< ((nI t).toInt64 &&& 63)))))), (rA 3, .inl (cJ, 60, .inr (.inl (us_add fu qa t)))), (rA 4, .inl (cJ, 60, .inr (.inl (us_add su qb t)))), (rA 5, .inl (cJ, 60, .inr (.inl (us_add tu qc t)))), (rA 6, .inl (cJ, 60, .inr (.inl be))), (rA 7, .inl (cI, 60, .inl (upd bd t (nI s0)))), (tA 0, .inr (2, [.ref (tA 1), .ref (tA 2), .ref (tA 3), .ref (tA 4), .ref (tA 5), .ref (tA 6), .ref (tA 7), .ref (tA 8), .long bu, .int ct])), (tA 4, .inl (cI, 60, .inl sg)), (tA 5, .inl (cI, 60, .inl fa)), (tA 6, .inl (cI, 60, .inl fb)), (tA 7, .inl (cI, 60, .inl fc))]) [0, 1, 2, 3, 4, 12, 5, 6, 7, 8, 9, 10, 11] rfl
      have hD := hD.sub (ws' := [(rA 0, .inr (1, [.ref (tA 0), .ref (rA 1), .ref (rA 2), .ref (rA 3), .ref (rA 4), .ref (rA 5), .ref (rA 6), .ref (rA 7), .long un, .int mi])), (rA 1, .inl (cI, 60, .inl (upd nm t (nI t)))), (rA 2, .inl (cJ, 60, .inr (.inl (vp_updL me t ((1 : Int64) <<< ((nI t).toInt64 &&& 63)))))), (rA 3, .inl (cJ, 60, .inr (.inl (us_add fu qa t)))), (rA 4, .inl (cJ, 60, .inr (.inl (us_add su qb t)))), (rA 5, .inl (cJ, 60, .inr (.inl (us_add tu qc t)))), (rA 6, .inl (cJ, 60, .inr (.inl be))), (rA 7, .inl (cI, 60, .inl (upd bd t (nI s0)))), (tA 0, .inr (2, [.ref (tA 1), .ref (tA 2), .ref (tA 3), .ref (tA 4), .ref (tA 5), .ref (tA 6), .ref (tA 7), .ref (tA 8), .long bu, .int ct])), (tA 4, .inl (cI, 60, .inl sg)), (tA 5, .inl (cI, 60, .inl fa)), (tA 6, .inl (cI, 60, .inl fb)), (tA 7, .inl (cI, 60, .inl fc))]) [0, 1, 2, 3, 4, 12, 5, 6, 7, 8, 9, 10, 11] (by decide) rfl
      generalize H1 = H at hP hS ⊢
      refine lv_iload_n hx hb dX1_addAlone_99 rfl (lv_at hl 0 rfl) ?_
      refine lv_if_eq (tgt := 147) hx hb dX1_addAlone_100 (by decide) (fun c2 => ?_) (fun c2 => ?_)
      · exact absurd c2 (by decide)
      · refine lv_aload_n hx hb dX1_addAlone_103 rfl (lv_at hl 1 rfl) ?_
        refine va_get (D := (dC, dI)) (ci := 1) (v := .ref (rA 6)) (C := RX1) (T := TX1) (N := 10) hx hb hts (fun w h => woX1_addAlone w (inX1 w h)) hown hK hP 0 rfl rfl 6 (by decide) (hts _ (woX1_addAlone _ wd_116)) (fun _ h9 => h9) rfl dX1_addAlone_104 ?_
        refine lv_iload_n hx hb dX1_addAlone_107 rfl (lv_at hl 2 rfl) ?_
        refine lv_aload_n hx hb dX1_addAlone_108 rfl (lv_at hl 1 rfl) ?_
        refine va_get (D := (dC, dI)) (ci := 1) (v := .ref (tA 0)) (C := RX1) (T := TX1) (N := 10) hx hb hts (fun w h => woX1_addAlone w (inX1 w h)) hown hK hP 0 rfl rfl 0 (by decide) (hts _ (woX1_addAlone _ wd_108)) (fun _ h9 => h9) rfl dX1_addAlone_109 ?_
        refine va_get (D := (dC, dI)) (ci := 2) (v := .ref (tA 5)) (C := RX2) (T := TX2) (N := 10) hx hb hts (fun w h => woX1_addAlone w (inX2 w h)) hown hK hP 8 rfl rfl 4 (by decide) (hts _ (woX1_addAlone _ wd_39)) (fun _ h9 => h9) rfl dX1_addAlone_112 ?_
        refine lv_iload_n hx hb dX1_addAlone_115 rfl (lv_at hl 2 rfl) ?_
        refine va_iald hx hb hK hP 10 0 rfl rfl (vp_in_nI (by omega) (by omega)) dX1_addAlone_116 ?_
        rw [show (nI t).toNatClampNeg = t from nI_clamp (by omega)]
        rw [efa]
        refine vp_callSl (W.runS (As := [.int (mx_enc qa)]) (rest := [.int (nI t), .ref (rA 6)]) ⟨hx, hb, hml, hown, hts⟩ (c_bitOf l qa (fun k h => Nat.lt_of_lt_of_le (hqa k h) (by decide))) (va_cwS 1 hts (w0_goodS woX1_addAlone wd_437 wd_435 wd_436 wd_4) rfl rfl rfl (by decide +kernel) ⟨Nat.le_of_ble_eq_true rfl, Nat.le_of_ble_eq_true rfl⟩) ⟨fun a U g mk q => q, fun U hU hW => ⟨rfl, trivial⟩⟩ rfl rfl hl.1 rfl (lv_room (Nat.le_of_ble_eq_true rfl)) dX1_addAlone_117 ⟨Nat.zero_le _, Nat.zero_le _⟩) (fun b0 hb0 => ?_)
        refine lv_aload_n hx hb dX1_addAlone_120 rfl (lv_at hl 1 rfl) ?_
        refine va_get (D := (dC, dI)) (ci := 1) (v := .ref (tA 0)) (C := RX1) (T := TX1) (N := 10) hx hb hts (fun w h => woX1_addAlone w (inX1 w h)) hown hK hP 0 rfl rfl 0 (by decide) (hts _ (woX1_addAlone _ wd_108)) (fun _ h9 => h9) rfl dX1_addAlone_121 ?_
        refine va_get (D := (dC, dI)) (ci := 2) (v := .ref (tA 6)) (C := RX2) (T := TX2) (N := 10) hx hb hts (fun w h => woX1_addAlone w (inX2 w h)) hown hK hP 8 rfl rfl 5 (by decide) (hts _ (woX1_addAlone _ wd_42)) (fun _ h9 => h9) rfl dX1_addAlone_124 ?_
        refine lv_iload_n hx hb dX1_addAlone_127 rfl (lv_at hl 2 rfl) ?_
        refine va_iald hx hb hK hP 11 0 rfl rfl (vp_in_nI (by omega) (by omega)) dX1_addAlone_128 ?_
        rw [show (nI t).toNatClampNeg = t from nI_clamp (by omega)]
        rw [efb]
        refine vp_callSl (W.runS (As := [.int (mx_enc qb)]) (rest := [.long b0, .int (nI t), .ref (rA 6)]) ⟨hx, hb, hml, hown, hts⟩ (c_bitOf l qb (fun k h => Nat.lt_of_lt_of_le (hqb k h) (by decide))) (va_cwS 1 hts (w0_goodS woX1_addAlone wd_437 wd_435 wd_436 wd_4) rfl rfl rfl (by decide +kernel) ⟨Nat.le_of_ble_eq_true rfl, Nat.le_of_ble_eq_true rfl⟩) ⟨fun a U g mk q => q, fun U hU hW => ⟨rfl, trivial⟩⟩ rfl rfl hl.1 rfl (lv_room (Nat.le_of_ble_eq_true rfl)) dX1_addAlone_129 ⟨Nat.zero_le _, Nat.zero_le _⟩) (fun b1 hb1 => ?_)
        refine lv_lor hx hb dX1_addAlone_132 ?_
        refine lv_aload_n hx hb dX1_addAlone_133 rfl (lv_at hl 1 rfl) ?_
        refine va_get (D := (dC, dI)) (ci := 1) (v := .ref (tA 0)) (C := RX1) (T := TX1) (N := 10) hx hb hts (fun w h => woX1_addAlone w (inX1 w h)) hown hK hP 0 rfl rfl 0 (by decide) (hts _ (woX1_addAlone _ wd_108)) (fun _ h9 => h9) rfl dX1_addAlone_134 ?_
        refine va_get (D := (dC, dI)) (ci := 2) (v := .ref (tA 7)) (C := RX2) (T := TX2) (N := 10) hx hb hts (fun w h => woX1_addAlone w (inX2 w h)) hown hK hP 8 rfl rfl 6 (by decide) (hts _ (woX1_addAlone _ wd_45)) (fun _ h9 => h9) rfl dX1_addAlone_137 ?_
        refine lv_iload_n hx hb dX1_addAlone_140 rfl (lv_at hl 2 rfl) ?_
        refine va_iald hx hb hK hP 12 0 rfl rfl (vp_in_nI (by omega) (by omega)) dX1_addAlone_141 ?_
        rw [show (nI t).toNatClampNeg = t from nI_clamp (by omega)]
        rw [efc]
        refine vp_callSl (W.runS (As := [.int (mx_enc qc)]) (rest := [.long (b0 ||| b1), .int (nI t), .ref (rA 6)]) ⟨hx, hb, hml, hown, hts⟩ (c_bitOf l qc (fun k h => Nat.lt_of_lt_of_le (hqc k h) (by decide))) (va_cwS 1 hts (w0_goodS woX1_addAlone wd_437 wd_435 wd_436 wd_4) rfl rfl rfl (by decide +kernel) ⟨Nat.le_of_ble_eq_true rfl, Nat.le_of_ble_eq_true rfl⟩) ⟨fun a U g mk q => q, fun U hU hW => ⟨rfl, trivial⟩⟩ rfl rfl hl.1 rfl (lv_room (Nat.le_of_ble_eq_true rfl)) dX1_addAlone_142 ⟨Nat.zero_le _, Nat.zero_le _⟩) (fun b2 hb2 => ?_)
        refine lv_lor hx hb dX1_addAlone_145 ?_
        refine va_last hx hb hK hP hD hS 6 1 rfl rfl (vp_in_nI (by omega) (by omega)) dX1_addAlone_146 (fun H locs hP hD hS => ?_)
        rw [show (nI t).toNatClampNeg = t from nI_clamp (by omega)] at hP hD
        have hP : va_P (dC, dI) vwCl [(rA 0, .inr (1, [.ref (tA 0), .ref (rA 1), .ref (rA 2), .ref (rA 3), .ref (rA 4), .ref (rA 5), .ref (rA 6), .ref (rA 7), .long un, .int mi])), (rA 1, .inl (cI, 60, .inl (upd nm t (nI t)))), (rA 2, .inl (cJ, 60, .inr (.inl (vp_updL me t ((1 : Int64) <<< ((nI t).toInt64 &&& 63)))))), (rA 3, .inl (cJ, 60, .inr (.inl (us_add fu qa t)))), (rA 4, .inl (cJ, 60, .inr (.inl (us_add su qb t)))), (rA 5, .inl (cJ, 60, .inr (.inl (us_add tu qc t)))), (rA 6, .inl (cJ, 60, .inr (.inl (vp_updL be t ((b0 ||| b1) ||| b2))))), (rA 7, .inl (cI, 60, .inl (upd bd t (nI s0)))), (tA 0, .inr (2, [.ref (tA 1), .ref (tA 2), .ref (tA 3), .ref (tA 4), .ref (tA 5), .ref (tA 6), .ref (tA 7), .ref (tA 8), .long bu, .int ct])), (tA 4, .inl (cI, 60, .inl sg)), (tA 5, .inl (cI, 60, .inl fa)), (tA 6, .inl (cI, 60, .inl fb)), (tA 7, .inl (cI, 60, .inl fc))] H := hP
        have hD : va_D A [(rA 0, .inr (1, [.ref (tA 0), .ref (rA 1), .ref (rA 2), .ref (rA 3), .ref (rA 4), .ref (rA 5), .ref (rA 6), .ref (rA 7), .long un, .int mi])), (rA 1, .inl (cI, 60, .inl (upd nm t (nI t)))), (rA 2, .inl (cJ, 60, .inr (.inl (vp_updL me t ((1 : Int64) <<< ((nI t).toInt64 &&& 63)))))), (rA 3, .inl (cJ, 60, .inr (.inl (us_add fu qa t)))), (rA 4, .inl (cJ, 60, .inr (.inl (us_add su qb t)))), (rA 5, .inl (cJ, 60, .inr (.inl (us_add tu qc t)))), (rA 6, .inl (cJ, 60, .inr (.inl (vp_updL be t ((b0 ||| b1) ||| b2))))), (rA 7, .inl (cI, 60, .inl (upd bd t (nI s0)))), (tA 0, .inr (2, [.ref (tA 1), .ref (tA 2), .ref (tA 3), .ref (tA 4), .ref (tA 5), .ref (tA 6), .ref (tA 7), .ref (tA 8), .long bu, .int ct])), (tA 4, .inl (cI, 60, .inl sg)), (tA 5, .inl (cI, 60, .inl fa)), (tA 6, .inl (cI, 60, .inl fb)), (tA 7, .inl (cI, 60, .inl fc))] := hD
        have hP9 := hP.sub (ws' := [(rA 0, .inr (1, [.ref (tA 0), .ref (rA 1), .ref (rA 2), .ref (rA 3), .ref (rA 4), .ref (rA 5), .ref (rA 6), .ref (rA 7), .long un, .int mi])), (rA 1, .inl (cI, 60, .inl (upd nm t (nI t)))), (rA 2, .inl (cJ, 60, .inr (.inl (vp_updL me t ((1 : Int64) <<< ((nI t).toInt64 &&& 63)))))), (rA 3, .inl (cJ, 60, .inr (.inl (us_add fu qa t)))), (rA 4, .inl (cJ, 60, .inr (.inl (us_add su qb t)))), (rA 5, .inl (cJ, 60, .inr (.inl (us_add tu qc t)))), (rA 6, .inl (cJ, 60, .inr (.inl (vp_updL be t ((b0 ||| b1) ||| b2))))), (rA 7, .inl (cI, 60, .inl (upd bd t (nI s0)))), (tA 0, .inr (2, [.ref (tA 1), .ref (tA 2), .ref (tA 3), .ref (tA 4), .ref (tA 5), .ref (tA 6), .ref (tA 7), .ref (tA 8), .long bu, .int ct])), (tA 4, .inl (cI, 60, .inl sg)), (tA 5, .inl (cI, 60, .inl fa)), (tA 6, .inl (cI, 60, .inl fb)), (tA 7, .inl (cI, 60, .inl fc))]) [0, 1, 2, 3, 4, 5, 6, 7, 8, 9, 10, 11, 12] rfl
        have hD9 := hD.sub (ws' := [(rA 0, .inr (1, [.ref (tA 0), .ref (rA 1), .ref (rA 2), .ref (rA 3), .ref (rA 4), .ref (rA 5), .ref (rA 6), .ref (rA 7), .long un, .int mi])), (rA 1, .inl (cI, 60, .inl (upd nm t (nI t)))), (rA 2, .inl (cJ, 60, .inr (.inl (vp_updL me t ((1 : Int64) <<< ((nI t).toInt64 &&& 63)))))), (rA 3, .inl (cJ, 60, .inr (.inl (us_add fu qa t)))), (rA 4, .inl (cJ, 60, .inr (.inl (us_add su qb t)))), (rA 5, .inl (cJ, 60, .inr (.inl (us_add tu qc t)))), (rA 6, .inl (cJ, 60, .inr (.inl (vp_updL be t ((b0 ||| b1) ||| b2))))), (rA 7, .inl (cI, 60, .inl (upd bd t (nI s0)))), (tA 0, .inr (2, [.ref (tA 1), .ref (tA 2), .ref (tA 3), .ref (tA 4), .ref (tA 5), .ref (tA 6), .ref (tA 7), .ref (tA 8), .long bu, .int ct])), (tA 4, .inl (cI, 60, .inl sg)), (tA 5, .inl (cI, 60, .inl fa)), (tA 6, .inl (cI, 60, .inl fb)), (tA 7, .inl (cI, 60, .inl fc))]) [0, 1, 2, 3, 4, 5, 6, 7, 8, 9, 10, 11, 12] (by decide) rfl
        exact W.vret hx hb hr (fun t9 ht9 hW9 => ⟨⟨(vp_updL be t ((b0 ||| b1) ||| b2), upd bd t (nI s0)), rfl, ⟨fun _ => ⟨⟨_, rfl, fun i => by rw [jb_or, jb_or, hb0, hb1, hb2]⟩, rfl⟩, fun q => absurd hbt q⟩, by rw [ht9]; exact hP9, va_K.moved hW9.alike hK, hD9⟩, hS.F ht9⟩) hS.2.2 dX1_addAlone_147
  · subst e1
    refine lv_istore_n (lv' := [(2, .int 0), (0, .ref (rA 0)), (1, .int (nI t))]) hx hb dX1_addAlone_8 rfl hl (by decide) rfl (fun ls hl => ?_)
    refine lv_aload_n hx hb dX1_addAlone_9 rfl (lv_at hl 1 rfl) ?_
    refine va_get (D := (dC, dI)) (ci := 1) (v := .ref (rA 1)) (C := RX1) (T := TX1) (N := 10) hx hb hts (fun w h => woX1_addAlone w (inX1 w h)) hown hK hP 0 rfl rfl 1 (by decide) (hts _ (woX1_addAlone _ wd_109)) (fun _ h9 => h9) rfl dX1_addAlone_10 ?_
    refine lv_iload_n hx hb dX1_addAlone_13 rfl (lv_at hl 2 rfl) ?_
    refine lv_iload_n hx hb dX1_addAlone_14 rfl (lv_at hl 2 rfl) ?_
    refine va_iast hx hb hK hP hD hS 1 0 rfl rfl (vp_in_nI (by omega) (by omega)) dX1_addAlone_15 (fun H locs hP hD hS => ?_)
    rw [show (nI t).toNatClampNeg = t from nI_clamp (by omega)] at hP hD
    have hP : va_P (dC, dI) vwCl [(rA 0, .inr (1, [.ref (tA 0), .ref (rA 1), .ref (rA 2), .ref (rA 3), .ref (rA 4), .ref (rA 5), .ref (rA 6), .ref (rA 7), .long un, .int mi])), (rA 1, .inl (cI, 60, .inl (upd nm t (nI t)))), (rA 2, .inl (cJ, 60, .inr (.inl me))), (rA 3, .inl (cJ, 60, .inr (.inl fu))), (rA 4, .inl (cJ, 60, .inr (.inl su))), (rA 5, .inl (cJ, 60, .inr (.inl tu))), (rA 6, .inl (cJ, 60, .inr (.inl be))), (rA 7, .inl (cI, 60, .inl bd)), (tA 0, .inr (2, [.ref (tA 1), .ref (tA 2), .ref (tA 3), .ref (tA 4), .ref (tA 5), .ref (tA 6), .ref (tA 7), .ref (tA 8), .long bu, .int ct])), (tA 4, .inl (cI, 60, .inl sg)), (tA 5, .inl (cI, 60, .inl fa)), (tA 6, .inl (cI, 60, .inl fb)), (tA 7, .inl (cI, 60, .inl fc))] H := hP
    have hD : va_D A [(rA 0, .inr (1, [.ref (tA 0), .ref (rA 1), .ref (rA 2), .ref (rA 3), .ref (rA 4), .ref (rA 5), .ref (rA 6), .ref (rA 7), .long un, .int mi])), (rA 1, .inl (cI, 60, .inl (upd nm t (nI t)))), (rA 2, .inl (cJ, 60, .inr (.inl me))), (rA 3, .inl (cJ, 60, .inr (.inl fu))), (rA 4, .inl (cJ, 60, .inr (.inl su))), (rA 5, .inl (cJ, 60, .inr (.inl tu))), (rA 6, .inl (cJ, 60, .inr (.inl be))), (rA 7, .inl (cI, 60, .inl bd)), (tA 0, .inr (2, [.ref (tA 1), .ref (tA 2), .ref (tA 3), .ref (tA 4), .ref (tA 5), .ref (tA 6), .ref (tA 7), .ref (tA 8), .long bu, .int ct])), (tA 4, .inl (cI, 60, .inl sg)), (tA 5, .inl (cI, 60, .inl fa)), (tA 6, .inl (cI, 60, .inl fb)), (tA 7, .inl (cI, 60, .inl fc))] := hD
    refine lv_aload_n hx hb dX1_addAlone_16 rfl (lv_at hl 1 rfl) ?_
    refine va_get (D := (dC, dI)) (ci := 1) (v := .ref (rA 2)) (C := RX1) (T := TX1) (N := 10) hx hb hts (fun w h => woX1_addAlone w (inX1 w h)) hown hK hP 0 rfl rfl 2 (by decide) (hts _ (woX1_addAlone _ wd_111)) (fun _ h9 => h9) rfl dX1_addAlone_17 ?_
    refine lv_iload_n hx hb dX1_addAlone_20 rfl (lv_at hl 2 rfl) ?_
    refine lv_lconst (v := 1) hx hb dX1_addAlone_21 (by decide) ?_
    refine lv_iload_n hx hb dX1_addAlone_22 rfl (lv_at hl 2 rfl) ?_
    refine lv_lshl (v := (1 : Int64) <<< ((nI t).toInt64 &&& 63)) hx hb dX1_addAlone_23 rfl ?_
    refine va_last hx hb hK hP hD hS 2 1 rfl rfl (vp_in_nI (by omega) (by omega)) dX1_addAlone_24 (fun H locs hP hD hS => ?_)
    rw [show (nI t).toNatClampNeg = t from nI_clamp (by omega)] at hP hD
    have hP : va_P (dC, dI) vwCl [(rA 0, .inr (1, [.ref (tA 0), .ref (rA 1), .ref (rA 2), .ref (rA 3), .ref (rA 4), .ref (rA 5), .ref (rA 6), .ref (rA 7), .long un, .int mi])), (rA 1, .inl (cI, 60, .inl (upd nm t (nI t)))), (rA 2, .inl (cJ, 60, .inr (.inl (vp_updL me t ((1 : Int64) <<< ((nI t).toInt64 &&& 63)))))), (rA 3, .inl (cJ, 60, .inr (.inl fu))), (rA 4, .inl (cJ, 60, .inr (.inl su))), (rA 5, .inl (cJ, 60, .inr (.inl tu))), (rA 6, .inl (cJ, 60, .inr (.inl be))), (rA 7, .inl (cI, 60, .inl bd)), (tA 0, .inr (2, [.ref (tA 1), .ref (tA 2), .ref (tA 3), .ref (tA 4), .ref (tA 5), .ref (tA 6), .ref (tA 7), .ref (tA 8), .long bu, .int ct])), (tA 4, .inl (cI, 60, .inl sg)), (tA 5, .inl (cI, 60, .inl fa)), (tA 6, .inl (cI, 60, .inl fb)), (tA 7, .inl (cI, 60, .inl fc))] H := hP
    have hD : va_D A [(rA 0, .inr (1, [.ref (tA 0), .ref (rA 1), .ref (rA 2), .ref (rA 3), .ref (rA 4), .ref (rA 5), .ref (rA 6), .ref (rA 7), .long un, .int mi])), (rA 1, .inl (cI, 60, .inl (upd nm t (nI t)))), (rA 2, .inl (cJ, 60, .inr (.inl (vp_updL me t ((1 : Int64) <<< ((nI t).toInt64 &&& 63)))))), (rA 3, .inl (cJ, 60, .inr (.inl fu))), (rA 4, .inl (cJ, 60, .inr (.inl su))), (rA 5, .inl (cJ, 60, .inr (.inl tu))), (rA 6, .inl (cJ, 60, .inr (.inl be))), (rA 7, .inl (cI, 60, .inl bd)), (tA 0, .inr (2, [.ref (tA 1), .ref (tA 2), .ref (tA 3), .ref (tA 4), .ref (tA 5), .ref (tA 6), .ref (tA 7), .ref (tA 8), .long bu, .int ct])), (tA 4, .inl (cI, 60, .inl sg)), (tA 5, .inl (cI, 60, .inl fa)), (tA 6, .inl (cI, 60, .inl fb)), (tA 7, .inl (cI, 60, .inl fc))] := hD
    refine lv_aload_n hx hb dX1_addAlone_25 rfl (lv_at hl 1 rfl) ?_
    refine va_get (D := (dC, dI)) (ci := 1) (v := .ref (rA 7)) (C := RX1) (T := TX1) (N := 10) hx hb hts (fun w h => woX1_addAlone w (inX1 w h)) hown hK hP 0 rfl rfl 7 (by decide) (hts _ (woX1_addAlone _ wd_117)) (fun _ h9 => h9) rfl dX1_addAlone_26 ?_
    refine lv_iload_n hx hb dX1_addAlone_29 rfl (lv_at hl 2 rfl) ?_
    refine lv_iload_n hx hb dX1_addAlone_30 rfl (lv_at hl 0 rfl) ?_
    refine lv_if_eq (tgt := 46) hx hb dX1_addAlone_31 (by decide) (fun c1 => ?_) (fun c1 => ?_)
    · refine lv_iconst (v := (-1)) hx hb dX1_addAlone_46 (by decide) ?_
      refine va_iast hx hb hK hP hD hS 7 0 rfl rfl (vp_in_nI (by omega) (by omega)) dX1_addAlone_47 (fun H locs hP hD hS => ?_)
      rw [show (nI t).toNatClampNeg = t from nI_clamp (by omega)] at hP hD
      have hP : va_P (dC, dI) vwCl [(rA 0, .inr (1, [.ref (tA 0), .ref (rA 1), .ref (rA 2), .ref (rA 3), .ref (rA 4), .ref (rA 5), .ref (rA 6), .ref (rA 7), .long un, .int mi])), (rA 1, .inl (cI, 60, .inl (upd nm t (nI t)))), (rA 2, .inl (cJ, 60, .inr (.inl (vp_updL me t ((1 : Int64) <<< ((nI t).toInt64 &&& 63)))))), (rA 3, .inl (cJ, 60, .inr (.inl fu))), (rA 4, .inl (cJ, 60, .inr (.inl su))), (rA 5, .inl (cJ, 60, .inr (.inl tu))), (rA 6, .inl (cJ, 60, .inr (.inl be))), (rA 7, .inl (cI, 60, .inl (upd bd t (-1)))), (tA 0, .inr (2, [.ref (tA 1), .ref (tA 2), .ref (tA 3), .ref (tA 4), .ref (tA 5), .ref (tA 6), .ref (tA 7), .ref (tA 8), .long bu, .int ct])), (tA 4, .inl (cI, 60, .inl sg)), (tA 5, .inl (cI, 60, .inl fa)), (tA 6, .inl (cI, 60, .inl fb)), (tA 7, .inl (cI, 60, .inl fc))] H := hP
      have hD : va_D A [(rA 0, .inr (1, [.ref (tA 0), .ref (rA 1), .ref (rA 2), .ref (rA 3), .ref (rA 4), .ref (rA 5), .ref (rA 6), .ref (rA 7), .long un, .int mi])), (rA 1, .inl (cI, 60, .inl (upd nm t (nI t)))), (rA 2, .inl (cJ, 60, .inr (.inl (vp_updL me t ((1 : Int64) <<< ((nI t).toInt64 &&& 63)))))), (rA 3, .inl (cJ, 60, .inr (.inl fu))), (rA 4, .inl (cJ, 60, .inr (.inl su))), (rA 5, .inl (cJ, 60, .inr (.inl tu))), (rA 6, .inl (cJ, 60, .inr (.inl be))), (rA 7, .inl (cI, 60, .inl (upd bd t (-1)))), (tA 0, .inr (2, [.ref (tA 1), .ref (tA 2), .ref (tA 3), .ref (tA 4), .ref (tA 5), .ref (tA 6), .ref (tA 7), .ref (tA 8), .long bu, .int ct])), (tA 4, .inl (cI, 60, .inl sg)), (tA 5, .inl (cI, 60, .inl fa)), (tA 6, .inl (cI, 60, .inl fb)), (tA 7, .inl (cI, 60, .inl fc))] := hD
      refine lv_aload_n hx hb dX1_addAlone_48 rfl (lv_at hl 1 rfl) ?_
      refine va_get (D := (dC, dI)) (ci := 1) (v := .ref (rA 3)) (C := RX1) (T := TX1) (N := 10) hx hb hts (fun w h => woX1_addAlone w (inX1 w h)) hown hK hP 0 rfl rfl 3 (by decide) (hts _ (woX1_addAlone _ wd_113)) (fun _ h9 => h9) rfl dX1_addAlone_49 ?_
      refine lv_aload_n hx hb dX1_addAlone_52 rfl (lv_at hl 1 rfl) ?_
      refine va_get (D := (dC, dI)) (ci := 1) (v := .ref (tA 0)) (C := RX1) (T := TX1) (N := 10) hx hb hts (fun w h => woX1_addAlone w (inX1 w h)) hown hK hP 0 rfl rfl 0 (by decide) (hts _ (woX1_addAlone _ wd_108)) (fun _ h9 => h9) rfl dX1_addAlone_53 ?_
      refine va_get (D := (dC, dI)) (ci := 2) (v := .ref (tA 5)) (C := RX2) (T := TX2) (N := 10) hx hb hts (fun w h => woX1_addAlone w (inX2 w h)) hown hK hP 8 rfl rfl 4 (by decide) (hts _ (woX1_addAlone _ wd_39)) (fun _ h9 => h9) rfl dX1_addAlone_56 ?_
      refine lv_iload_n hx hb dX1_addAlone_59 rfl (lv_at hl 2 rfl) ?_
      refine va_iald hx hb hK hP 10 0 rfl rfl (vp_in_nI (by omega) (by omega)) dX1_addAlone_60 ?_
      rw [show (nI t).toNatClampNeg = t from nI_clamp (by omega)]
      rw [efa]
      refine lv_iload_n hx hb dX1_addAlone_61 rfl (lv_at hl 2 rfl) ?_
      have hPc := hP.sub (ws' := [(rA 3, .inl (cJ, 60, .inr (.inl fu)))]) [3] rfl
      have hDc := hD.sub (ws' := [(rA 3, .inl (cJ, 60, .inr (.inl fu)))]) [3] (by decide) rfl
      have hFc := va_free (wc := [(rA 3, .inl (cJ, 60, .inr (.inl fu)))]) hD hS hA [3] rfl
      refine va_callv (va_runS (As := [.ref (rA 3), .int (mx_enc qa), .int (nI t)]) (rest := []) ⟨hx, hb, hml, hown, hts⟩ (c_use l dC dI cI cJ cZ (rA 3) fu qa t H.size hqa) (va_cwS 3 hts (w0_goodS woX1_addAlone wd_434 wd_432 wd_433 wd_4) rfl rfl rfl (by decide +kernel) ⟨Nat.le_of_ble_eq_true rfl, Nat.le_of_ble_eq_true rfl⟩) ⟨fun a U g mk q => by obtain ⟨q0, q1, qP, qK, qD⟩ := q; exact ⟨q0, q1, qP, va_K.moved (u := U) (U := U.calling g mk a) (Vm.Alike.refl U.vm) qK, qD⟩, fun U hU hW => ⟨rfl, by rw [hU], by rw [hU]; exact hPc, va_K.moved hW.alike hK, hDc.weaken (fun _ _ _ _ => trivial)⟩⟩ rfl rfl hl.1 rfl (lv_room (Nat.le_of_ble_eq_true rfl)) dX1_addAlone_62 ⟨Nat.zero_le _, Nat.zero_le _⟩) hS (fun q _ h => hFc q h) hFc (fun u t8 H1 locs ht8 hvm hu hB hz1 hk1 hS => ?_)
      obtain ⟨__4, rfl⟩ : ∃ z, z = u := ⟨_, rfl⟩
      obtain ⟨hP1, hK1, hD1⟩ := hB
      rw [ht8] at hP1
      try dsimp only at hu
      obtain ⟨hP, hD⟩ := va_join (wr := [(rA 0, .inr (1, [.ref (tA 0), .ref (rA 1), .ref (rA 2), .ref (rA 3), .ref (rA 4), .ref (rA 5), .ref (rA 6), .ref (rA 7), .long un, .int mi])), (rA 1, .inl (cI, 60, .inl (upd nm t (nI t)))), (rA 2, .inl (cJ, 60, .inr (.inl (vp_updL me t ((1 : Int64) <<< ((nI t).toInt64 &&& 63)))))), (rA 4, .inl (cJ, 60, .inr (.inl su))), (rA 5, .inl (cJ, 60, .inr (.inl tu))), (rA 6, .inl (cJ, 60, .inr (.inl be))), (rA 7, .inl (cI, 60, .inl (upd bd t (-1)))), (tA 0, .inr (2, [.ref (tA 1), .ref (tA 2), .ref (tA 3), .ref (tA 4), .ref (tA 5), .ref (tA 6), .ref (tA 7), .ref (tA 8), .long bu, .int ct])), (tA 4, .inl (cI, 60, .inl sg)), (tA 5, .inl (cI, 60, .inl fa)), (tA 6, .inl (cI, 60, .inl fb)), (tA 7, .inl (cI, 60, .inl fc))]) (w1 := [(rA 3, .inl (cJ, 60, .inr (.inl (us_add fu qa t))))]) hP hD [3] [0, 1, 2, 4, 5, 6, 7, 8, 9, 10, 11, 12] rfl rfl (by decide) (by decide) hk1 hFc hP1 hD1
      have hP := hP.sub (ws' := [(rA 0, .inr (1, [.ref (tA 0), .ref (rA 1), .ref (rA 2), .ref (rA 3), .ref (rA 4), .ref (rA 5), .ref (rA 6), .ref (rA 7), .long un, .int mi])), (rA 1, .inl (cI, 60, .inl (upd nm t (nI t)))), (rA 2, .inl (cJ, 60, .inr (.inl (vp_updL me t ((1 : Int64) <<< ((nI t).toInt64 &&& 63)))))), (rA 3, .inl (cJ, 60, .inr (.inl (us_add fu qa t)))), (rA 4, .inl (cJ, 60, .inr (.inl su))), (rA 5, .inl (cJ, 60, .inr (.inl tu))), (rA 6, .inl (cJ, 60, .inr (.inl be))), (rA 7, .inl (cI, 60, .inl (upd bd t (-1)))), (tA 0, .inr (2, [.ref (tA 1), .ref (tA 2), .ref (tA 3), .ref (tA 4), .ref (tA 5), .ref (tA 6), .ref (tA 7), .ref (tA 8), .long bu, .int ct])), (tA 4, .inl (cI, 60, .inl sg)), (tA 5, .inl (cI, 60, .inl fa)), (tA 6, .inl (cI, 60, .inl fb)), (tA 7, .inl (cI, 60, .inl fc))]) [0, 1, 2, 12, 3, 4, 5, 6, 7, 8, 9, 10, 11] rfl
      have hD := hD.sub (ws' := [(rA 0, .inr (1, [.ref (tA 0), .ref (rA 1), .ref (rA 2), .ref (rA 3), .ref (rA 4), .ref (rA 5), .ref (rA 6), .ref (rA 7), .long un, .int mi])), (rA 1, .inl (cI, 60, .inl (upd nm t (nI t)))), (rA 2, .inl (cJ, 60, .inr (.inl (vp_updL me t ((1 : Int64) <<< ((nI t).toInt64 &&& 63)))))), (rA 3, .inl (cJ, 60, .inr (.inl (us_add fu qa t)))), (rA 4, .inl (cJ, 60, .inr (.inl su))), (rA 5, .inl (cJ, 60, .inr (.inl tu))), (rA 6, .inl (cJ, 60, .inr (.inl be))), (rA 7, .inl (cI, 60, .inl (upd bd t (-1)))), (tA 0, .inr (2, [.ref (tA 1), .ref (tA 2), .ref (tA 3), .ref (tA 4), .ref (tA 5), .ref (tA 6), .ref (tA 7), .ref (tA 8), .long bu, .int ct])), (tA 4, .inl (cI, 60, .inl sg)), (tA 5, .inl (cI, 60, .inl fa)), (tA 6, .inl (cI, 60, .inl fb)), (tA 7, .inl (cI, 60, .inl fc))]) [0, 1, 2, 12, 3, 4, 5, 6, 7, 8, 9, 10, 11] (by decide) rfl
      generalize H1 = H at hP hS ⊢
      refine lv_aload_n hx hb dX1_addAlone_65 rfl (lv_at hl 1 rfl) ?_
      refine va_get (D := (dC, dI)) (ci := 1) (v := .ref (rA 4)) (C := RX1) (T := TX1) (N := 10) hx hb hts (fun w h => woX1_addAlone w (inX1 w h)) hown hK hP 0 rfl rfl 4 (by decide) (hts _ (woX1_addAlone _ wd_114)) (fun _ h9 => h9) rfl dX1_addAlone_66 ?_
      refine lv_aload_n hx hb dX1_addAlone_69 rfl (lv_at hl 1 rfl) ?_
      refine va_get (D := (dC, dI)) (ci := 1) (v := .ref (tA 0)) (C := RX1) (T := TX1) (N := 10) hx hb hts (fun w h => woX1_addAlone w (inX1 w h)) hown hK hP 0 rfl rfl 0 (by decide) (hts _ (woX1_addAlone _ wd_108)) (fun _ h9 => h9) rfl dX1_addAlone_70 ?_
      refine va_get (D := (dC, dI)) (ci := 2) (v := .ref (tA 6)) (C := RX2) (T := TX2) (N := 10) hx hb hts (fun w h => woX1_addAlone w (inX2 w h)) hown hK hP 8 rfl rfl 5 (by decide) (hts _ (woX1_addAlone _ wd_42)) (fun _ h9 => h9) rfl dX1_addAlone_73 ?_
      refine lv_iload_n hx hb dX1_addAlone_76 rfl (lv_at hl 2 rfl) ?_
      refine va_iald hx hb hK hP 11 0 rfl rfl (vp_in_nI (by omega) (by omega)) dX1_addAlone_77 ?_
      rw [show (nI t).toNatClampNeg = t from nI_clamp (by omega)]
      rw [efb]
      refine lv_iload_n hx hb dX1_addAlone_78 rfl (lv_at hl 2 rfl) ?_
      have hPc := hP.sub (ws' := [(rA 4, .inl (cJ, 60, .inr (.inl su)))]) [4] rfl
      have hDc := hD.sub (ws' := [(rA 4, .inl (cJ, 60, .inr (.inl su)))]) [4] (by decide) rfl
      have hFc := va_free (wc := [(rA 4, .inl (cJ, 60, .inr (.inl su)))]) hD hS hA [4] rfl
      refine va_callv (va_runS (As := [.ref (rA 4), .int (mx_enc qb), .int (nI t)]) (rest := []) ⟨hx, hb, hml, hown, hts⟩ (c_use l dC dI cI cJ cZ (rA 4) su qb t H.size hqb) (va_cwS 3 hts (w0_goodS woX1_addAlone wd_434 wd_432 wd_433 wd_4) rfl rfl rfl (by decide +kernel) ⟨Nat.le_of_ble_eq_true rfl, Nat.le_of_ble_eq_true rfl⟩) ⟨fun a U g mk q => by obtain ⟨q0, q1, qP, qK, qD⟩ := q; exact ⟨q0, q1, qP, va_K.moved (u := U) (U := U.calling g mk a) (Vm.Alike.refl U.vm) qK, qD⟩, fun U hU hW => ⟨rfl, by rw [hU], by rw [hU]; exact hPc, va_K.moved hW.alike hK, hDc.weaken (fun _ _ _ _ => trivial)⟩⟩ rfl rfl hl.1 rfl (lv_room (Nat.le_of_ble_eq_true rfl)) dX1_addAlone_79 ⟨Nat.zero_le _, Nat.zero_le _⟩) hS (fun q _ h => hFc q h) hFc (fun u t8 H1 locs ht8 hvm hu hB hz1 hk1 hS => ?_)
      obtain ⟨__5, rfl⟩ : ∃ z, z = u := ⟨_, rfl⟩
      obtain ⟨hP1, hK1, hD1⟩ := hB
      rw [ht8] at hP1
      try dsimp only at hu
      obtain ⟨hP, hD⟩ := va_join (wr := [(rA 0, .inr (1, [.ref (tA 0), .ref (rA 1), .ref (rA 2), .ref (rA 3), .ref (rA 4), .ref (rA 5), .ref (rA 6), .ref (rA 7), .long un, .int mi])), (rA 1, .inl (cI, 60, .inl (upd nm t (nI t)))), (rA 2, .inl (cJ, 60, .inr (.inl (vp_updL me t ((1 : Int64) <<< ((nI t).toInt64 &&& 63)))))), (rA 3, .inl (cJ, 60, .inr (.inl (us_add fu qa t)))), (rA 5, .inl (cJ, 60, .inr (.inl tu))), (rA 6, .inl (cJ, 60, .inr (.inl be))), (rA 7, .inl (cI, 60, .inl (upd bd t (-1)))), (tA 0, .inr (2, [.ref (tA 1), .ref (tA 2), .ref (tA 3), .ref (tA 4), .ref (tA 5), .ref (tA 6), .ref (tA 7), .ref (tA 8), .long bu, .int ct])), (tA 4, .inl (cI, 60, .inl sg)), (tA 5, .inl (cI, 60, .inl fa)), (tA 6, .inl (cI, 60, .inl fb)), (tA 7, .inl (cI, 60, .inl fc))]) (w1 := [(rA 4, .inl (cJ, 60, .inr (.inl (us_add su qb t))))]) hP hD [4] [0, 1, 2, 3, 5, 6, 7, 8, 9, 10, 11, 12] rfl rfl (by decide) (by decide) hk1 hFc hP1 hD1
      have hP := hP.sub (ws' := [(rA 0, .inr (1, [.ref (tA 0), .ref (rA 1), .ref (rA 2), .ref (rA 3), .ref (rA 4), .ref (rA 5), .ref (rA 6), .ref (rA 7), .long un, .int mi])), (rA 1, .inl (cI, 60, .inl (upd nm t (nI t)))), (rA 2, .inl (cJ, 60, .inr (.inl (vp_updL me t ((1 : Int64) <<< ((nI t).toInt64 &&& 63)))))), (rA 3, .inl (cJ, 60, .inr (.inl (us_add fu qa t)))), (rA 4, .inl (cJ, 60, .inr (.inl (us_add su qb t)))), (rA 5, .inl (cJ, 60, .inr (.inl tu))), (rA 6, .inl (cJ, 60, .inr (.inl be))), (rA 7, .inl (cI, 60, .inl (upd bd t (-1)))), (tA 0, .inr (2, [.ref (tA 1), .ref (tA 2), .ref (tA 3), .ref (tA 4), .ref (tA 5), .ref (tA 6), .ref (tA 7), .ref (tA 8), .long bu, .int ct])), (tA 4, .inl (cI, 60, .inl sg)), (tA 5, .inl (cI, 60, .inl fa)), (tA 6, .inl (cI, 60, .inl fb)), (tA 7, .inl (cI, 60, .inl fc))]) [0, 1, 2, 3, 12, 4, 5, 6, 7, 8, 9, 10, 11] rfl
      have hD := hD.sub (ws' := [(rA 0, .inr (1, [.ref (tA 0), .ref (rA 1), .ref (rA 2), .ref (rA 3), .ref (rA 4), .ref (rA 5), .ref (rA 6), .ref (rA 7), .long un, .int mi])), (rA 1, .inl (cI, 60, .inl (upd nm t (nI t)))), (rA 2, .inl (cJ, 60, .inr (.inl (vp_updL me t ((1 : Int64) <<< ((nI t).toInt64 &&& 63)))))), (rA 3, .inl (cJ, 60, .inr (.inl (us_add fu qa t)))), (rA 4, .inl (cJ, 60, .inr (.inl (us_add su qb t)))), (rA 5, .inl (cJ, 60, .inr (.inl tu))), (rA 6, .inl (cJ, 60, .inr (.inl be))), (rA 7, .inl (cI, 60, .inl (upd bd t (-1)))), (tA 0, .inr (2, [.ref (tA 1), .ref (tA 2), .ref (tA 3), .ref (tA 4), .ref (tA 5), .ref (tA 6), .ref (tA 7), .ref (tA 8), .long bu, .int ct])), (tA 4, .inl (cI, 60, .inl sg)), (tA 5, .inl (cI, 60, .inl fa)), (tA 6, .inl (cI, 60, .inl fb)), (tA 7, .inl (cI, 60, .inl fc))]) [0, 1, 2, 3, 12, 4, 5, 6, 7, 8, 9, 10, 11] (by decide) rfl
      generalize H1 = H at hP hS ⊢
      refine lv_aload_n hx hb dX1_addAlone_82 rfl (lv_at hl 1 rfl) ?_
      refine va_get (D := (dC, dI)) (ci := 1) (v := .ref (rA 5)) (C := RX1) (T := TX1) (N := 10) hx hb hts (fun w h => woX1_addAlone w (inX1 w h)) hown hK hP 0 rfl rfl 5 (by decide) (hts _ (woX1_addAlone _ wd_115)) (fun _ h9 => h9) rfl dX1_addAlone_83 ?_
      refine lv_aload_n hx hb dX1_addAlone_86 rfl (lv_at hl 1 rfl) ?_
      refine va_get (D := (dC, dI)) (ci := 1) (v := .ref (tA 0)) (C := RX1) (T := TX1) (N := 10) hx hb hts (fun w h => woX1_addAlone w (inX1 w h)) hown hK hP 0 rfl rfl 0 (by decide) (hts _ (woX1_addAlone _ wd_108)) (fun _ h9 => h9) rfl dX1_addAlone_87 ?_
      refine va_get (D := (dC, dI)) (ci := 2) (v := .ref (tA 7)) (C := RX2) (T := TX2) (N := 10) hx hb hts (fun w h => woX1_addAlone w (inX2 w h)) hown hK hP 8 rfl rfl 6 (by decide) (hts _ (woX1_addAlone _ wd_45)) (fun _ h9 => h9) rfl dX1_addAlone_90 ?_
      refine lv_iload_n hx hb dX1_addAlone_93 rfl (lv_at hl 2 rfl) ?_
      refine va_iald hx hb hK hP 12 0 rfl rfl (vp_in_nI (by omega) (by omega)) dX1_addAlone_94 ?_
      rw [show (nI t).toNatClampNeg = t from nI_clamp (by omega)]
      rw [efc]
      refine lv_iload_n hx hb dX1_addAlone_95 rfl (lv_at hl 2 rfl) ?_
      have hPc := hP.sub (ws' := [(rA 5, .inl (cJ, 60, .inr (.inl tu)))]) [5] rfl
      have hDc := hD.sub (ws' := [(rA 5, .inl (cJ, 60, .inr (.inl tu)))]) [5] (by decide) rfl
      have hFc := va_free (wc := [(rA 5, .inl (cJ, 60, .inr (.inl tu)))]) hD hS hA [5] rfl
      refine va_callv (va_runS (As := [.ref (rA 5), .int (mx_enc qc), .int (nI t)]) (rest := []) ⟨hx, hb, hml, hown, hts⟩ (c_use l dC dI cI cJ cZ (rA 5) tu qc t H.size hqc) (va_cwS 3 hts (w0_goodS woX1_addAlone wd_434 wd_432 wd_433 wd_4) rfl rfl rfl (by decide +kernel) ⟨Nat.le_of_ble_eq_true rfl, Nat.le_of_ble_eq_true rfl⟩) ⟨fun a U g mk q => by obtain ⟨q0, q1, qP, qK, qD⟩ := q; exact ⟨q0, q1, qP, va_K.moved (u := U) (U := U.calling g mk a) (Vm.Alike.refl U.vm) qK, qD⟩, fun U hU hW => ⟨rfl, by rw [hU], by rw [hU]; exact hPc, va_K.moved hW.alike hK, hDc.weaken (fun _ _ _ _ => trivial)⟩⟩ rfl rfl hl.1 rfl (lv_room (Nat.le_of_ble_eq_true rfl)) dX1_addAlone_96 ⟨Nat.zero_le _, Nat.zero_le _⟩) hS (fun q _ h => hFc q h) hFc (fun u t8 H1 locs ht8 hvm hu hB hz1 hk1 hS => ?_)
      obtain ⟨__6, rfl⟩ : ∃ z, z = u := ⟨_, rfl⟩
      obtain ⟨hP1, hK1, hD1⟩ := hB
      rw [ht8] at hP1
      try dsimp only at hu
      obtain ⟨hP, hD⟩ := va_join (wr := [(rA 0, .inr (1, [.ref (tA 0), .ref (rA 1), .ref (rA 2), .ref (rA 3), .ref (rA 4), .ref (rA 5), .ref (rA 6), .ref (rA 7), .long un, .int mi])), (rA 1, .inl (cI, 60, .inl (upd nm t (nI t)))), (rA 2, .inl (cJ, 60, .inr (.inl (vp_updL me t ((1 : Int64) <<< ((nI t).toInt64 &&& 63)))))), (rA 3, .inl (cJ, 60, .inr (.inl (us_add fu qa t)))), (rA 4, .inl (cJ, 60, .inr (.inl (us_add su qb t)))), (rA 6, .inl (cJ, 60, .inr (.inl be))), (rA 7, .inl (cI, 60, .inl (upd bd t (-1)))), (tA 0, .inr (2, [.ref (tA 1), .ref (tA 2), .ref (tA 3), .ref (tA 4), .ref (tA 5), .ref (tA 6), .ref (tA 7), .ref (tA 8), .long bu, .int ct])), (tA 4, .inl (cI, 60, .inl sg)), (tA 5, .inl (cI, 60, .inl fa)), (tA 6, .inl (cI, 60, .inl fb)), (tA 7, .inl (cI, 60, .inl fc))]) (w1 := [(rA 5, .inl (cJ, 60, .inr (.inl (us_add tu qc t))))]) hP hD [5] [0, 1, 2, 3, 4, 6, 7, 8, 9, 10, 11, 12] rfl rfl (by decide) (by decide) hk1 hFc hP1 hD1
      have hP := hP.sub (ws' := [(rA 0, .inr (1, [.ref (tA 0), .ref (rA 1), .ref (rA 2), .ref (rA 3), .ref (rA 4), .ref (rA 5), .ref (rA 6), .ref (rA 7), .long un, .int mi])), (rA 1, .inl (cI, 60, .inl (upd nm t (nI t)))), (rA 2, .inl (cJ, 60, .inr (.inl (vp_updL me t ((1 : Int64) <<< ((nI t).toInt64 &&& 63)))))), (rA 3, .inl (cJ, 60, .inr (.inl (us_add fu qa t)))), (rA 4, .inl (cJ, 60, .inr (.inl (us_add su qb t)))), (rA 5, .inl (cJ, 60, .inr (.inl (us_add tu qc t)))), (rA 6, .inl (cJ, 60, .inr (.inl be))), (rA 7, .inl (cI, 60, .inl (upd bd t (-1)))), (tA 0, .inr (2, [.ref (tA 1), .ref (tA 2), .ref (tA 3), .ref (tA 4), .ref (tA 5), .ref (tA 6), .ref (tA 7), .ref (tA 8), .long bu, .int ct])), (tA 4, .inl (cI, 60, .inl sg)), (tA 5, .inl (cI, 60, .inl fa)), (tA 6, .inl (cI, 60, .inl fb)), (tA 7, .inl (cI, 60, .inl fc))]) [0, 1, 2, 3, 4, 12, 5, 6, 7, 8, 9, 10, 11] rfl
      have hD := hD.sub (ws' := [(rA 0, .inr (1, [.ref (tA 0), .ref (rA 1), .ref (rA 2), .ref (rA 3), .ref (rA 4), .ref (rA 5), .ref (rA 6), .ref (rA 7), .long un, .int mi])), (rA 1, .inl (cI, 60, .inl (upd nm t (nI t)))), (rA 2, .inl (cJ, 60, .inr (.inl (vp_updL me t ((1 : Int64) <<< ((nI t).toInt64 &&& 63)))))), (rA 3, .inl (cJ, 60, .inr (.inl (us_add fu qa t)))), (rA 4, .inl (cJ, 60, .inr (.inl (us_add su qb t)))), (rA 5, .inl (cJ, 60, .inr (.inl (us_add tu qc t)))), (rA 6, .inl (cJ, 60, .inr (.inl be))), (rA 7, .inl (cI, 60, .inl (upd bd t (-1)))), (tA 0, .inr (2, [.ref (tA 1), .ref (tA 2), .ref (tA 3), .ref (tA 4), .ref (tA 5), .ref (tA 6), .ref (tA 7), .ref (tA 8), .long bu, .int ct])), (tA 4, .inl (cI, 60, .inl sg)), (tA 5, .inl (cI, 60, .inl fa)), (tA 6, .inl (cI, 60, .inl fb)), (tA 7, .inl (cI, 60, .inl fc))]) [0, 1, 2, 3, 4, 12, 5, 6, 7, 8, 9, 10, 11] (by decide) rfl
      generalize H1 = H at hP hS ⊢
      refine lv_iload_n hx hb dX1_addAlone_99 rfl (lv_at hl 0 rfl) ?_
      refine lv_if_eq (tgt := 147) hx hb dX1_addAlone_100 (by decide) (fun c2 => ?_) (fun c2 => ?_)
      · have hP9 := hP.sub (ws' := [(rA 0, .inr (1, [.ref (tA 0), .ref (rA 1), .ref (rA 2), .ref (rA 3), .ref (rA 4), .ref (rA 5), .ref (rA 6), .ref (rA 7), .long un, .int mi])), (rA 1, .inl (cI, 60, .inl (upd nm t (nI t)))), (rA 2, .inl (cJ, 60, .inr (.inl (vp_updL me t ((1 : Int64) <<< ((nI t).toInt64 &&& 63)))))), (rA 3, .inl (cJ, 60, .inr (.inl (us_add fu qa t)))), (rA 4, .inl (cJ, 60, .inr (.inl (us_add su qb t)))), (rA 5, .inl (cJ, 60, .inr (.inl (us_add tu qc t)))), (rA 6, .inl (cJ, 60, .inr (.inl be))), (rA 7, .inl (cI, 60, .inl (upd bd t (-1)))), (tA 0, .inr (2, [.ref (tA 1), .ref (tA 2), .ref (tA 3), .ref (tA 4), .ref (tA 5), .ref (tA 6), .ref (tA 7), .ref (tA 8), .long bu, .int ct])), (tA 4, .inl (cI, 60, .inl sg)), (tA 5, .inl (cI, 60, .inl fa)), (tA 6, .inl (cI, 60, .inl fb)), (tA 7, .inl (cI, 60, .inl fc))]) [0, 1, 2, 3, 4, 5, 6, 7, 8, 9, 10, 11, 12] rfl
        have hD9 := hD.sub (ws' := [(rA 0, .inr (1, [.ref (tA 0), .ref (rA 1), .ref (rA 2), .ref (rA 3), .ref (rA 4), .ref (rA 5), .ref (rA 6), .ref (rA 7), .long un, .int mi])), (rA 1, .inl (cI, 60, .inl (upd nm t (nI t)))), (rA 2, .inl (cJ, 60, .inr (.inl (vp_updL me t ((1 : Int64) <<< ((nI t).toInt64 &&& 63)))))), (rA 3, .inl (cJ, 60, .inr (.inl (us_add fu qa t)))), (rA 4, .inl (cJ, 60, .inr (.inl (us_add su qb t)))), (rA 5, .inl (cJ, 60, .inr (.inl (us_add tu qc t)))), (rA 6, .inl (cJ, 60, .inr (.inl be))), (rA 7, .inl (cI, 60, .inl (upd bd t (-1)))), (tA 0, .inr (2, [.ref (tA 1), .ref (tA 2), .ref (tA 3), .ref (tA 4), .ref (tA 5), .ref (tA 6), .ref (tA 7), .ref (tA 8), .long bu, .int ct])), (tA 4, .inl (cI, 60, .inl sg)), (tA 5, .inl (cI, 60, .inl fa)), (tA 6, .inl (cI, 60, .inl fb)), (tA 7, .inl (cI, 60, .inl fc))]) [0, 1, 2, 3, 4, 5, 6, 7, 8, 9, 10, 11, 12] (by decide) rfl
        exact W.vret hx hb hr (fun t9 ht9 hW9 => ⟨⟨(be, upd bd t (-1)), rfl, ⟨fun q => absurd q hbt, fun _ => ⟨rfl, rfl⟩⟩, by rw [ht9]; exact hP9, va_K.moved hW9.alike hK, hD9⟩, hS.F ht9⟩) hS.2.2 dX1_addAlone_147
      · exact absurd rfl c2
    · exact absurd rfl c1

def in_of (ins : Nat → Int64) (q : Option Nat) : Int64 := match q with
  | none => 0
  | some k => ins k

set_option maxHeartbeats 4000000 in
set_option maxRecDepth 100000 in
/-- Terms.add -/
theorem c_Tadd (l : Launch) (dC : Nat → ClassId) (dI : Nat → Nat → Nat) (cI cJ cZ : ClassId) (tA : Nat → Nat) (bs : Nat → Int32) (os : Nat → Int64) (sg : Nat → Int32) (fa : Nat → Int32) (fb : Nat → Int32) (fc : Nat → Int32) (ins : Nat → Int64) (bu : Int64) (n : Nat) (s0 : Nat) (qa : Option Nat) (qb : Option Nat) (qc : Option Nat) (sz : Nat) (hn : n < 60) (hs : s0 < 16) (hqa : ∀ k, qa = some k → k < 60) (hqb : ∀ k, qb = some k → k < 60) (hqc : ∀ k, qc = some k → k < 60) : Met l yX2_add wsX2_add ({ frames := 1, cells := 0, slots := 0, locals := 21 }) (va_Pc [.ref (tA 0), .int (nI s0), .int (mx_enc qa), .int (mx_enc qb), .int (mx_enc qc)] (fun U => U.heap.size = sz ∧ va_P (dC, dI) vwCl [(tA 0, .inr (2, [.ref (tA 1), .ref (tA 2), .ref (tA 3), .ref (tA 4), .ref (tA 5), .ref (tA 6), .ref (tA 7), .ref (tA 8), .long bu, .int (nI n)])), (tA 2, .inl (cZ, 16, .inl bs)), (tA 3, .inl (cJ, 16, .inr (.inl os))), (tA 4, .inl (cI, 60, .inl sg)), (tA 5, .inl (cI, 60, .inl fa)), (tA 6, .inl (cI, 60, .inl fb)), (tA 7, .inl (cI, 60, .inl fc)), (tA 8, .inl (cJ, 60, .inr (.inl ins)))] U.heap ∧ va_K (dC, dI) vwCl [(cI, .int), (cJ, .long), (cZ, .boolean)] U ∧ va_D (fun _ => True) [(tA 0, .inr (2, [.ref (tA 1), .ref (tA 2), .ref (tA 3), .ref (tA 4), .ref (tA 5), .ref (tA 6), .ref (tA 7), .ref (tA 8), .long bu, .int (nI n)])), (tA 2, .inl (cZ, 16, .inl bs)), (tA 3, .inl (cJ, 16, .inr (.inl os))), (tA 4, .inl (cI, 60, .inl sg)), (tA 5, .inl (cI, 60, .inl fa)), (tA 6, .inl (cI, 60, .inl fb)), (tA 7, .inl (cI, 60, .inl fc)), (tA 8, .inl (cJ, 60, .inr (.inl ins)))])) (va_Qv (fun bu2 : Int64 => (bs s0 = 0 → bu2 = bu) ∧ (¬ bs s0 = 0 → bu2 = bu ||| ((1 : Int64) <<< ((nI n).toInt64 &&& 63)))) (fun (u : Int64) t7 => match u with | bu2 => va_P (dC, dI) vwCl [(tA 0, .inr (2, [.ref (tA 1), .ref (tA 2), .ref (tA 3), .ref (tA 4), .ref (tA 5), .ref (tA 6), .ref (tA 7), .ref (tA 8), .long bu2, .int (nI (n + 1))])), (tA 2, .inl (cZ, 16, .inl bs)), (tA 3, .inl (cJ, 16, .inr (.inl (vp_updL os s0 (os s0 ||| ((1 : Int64) <<< ((nI n).toInt64 &&& 63))))))), (tA 4, .inl (cI, 60, .inl (upd sg n (nI s0)))), (tA 5, .inl (cI, 60, .inl (upd fa n (mx_enc qa)))), (tA 6, .inl (cI, 60, .inl (upd fb n (mx_enc qb)))), (tA 7, .inl (cI, 60, .inl (upd fc n (mx_enc qc)))), (tA 8, .inl (cJ, 60, .inr (.inl (vp_updL ins n (((((1 : Int64) <<< ((nI n).toInt64 &&& 63)) ||| in_of ins qa) ||| in_of ins qb) ||| in_of ins qc)))))] t7.heap ∧ va_K (dC, dI) vwCl [(cI, .int), (cJ, .long), (cZ, .boolean)] t7 ∧ va_D (va_A [(tA 0, .inr (2, [.ref (tA 1), .ref (tA 2), .ref (tA 3), .ref (tA 4), .ref (tA 5), .ref (tA 6), .ref (tA 7), .ref (tA 8), .long bu, .int (nI n)])), (tA 2, .inl (cZ, 16, .inl bs)), (tA 3, .inl (cJ, 16, .inr (.inl os))), (tA 4, .inl (cI, 60, .inl sg)), (tA 5, .inl (cI, 60, .inl fa)), (tA 6, .inl (cI, 60, .inl fb)), (tA 7, .inl (cI, 60, .inl fc)), (tA 8, .inl (cJ, 60, .inr (.inl ins)))] sz) [(tA 0, .inr (2, [.ref (tA 1), .ref (tA 2), .ref (tA 3), .ref (tA 4), .ref (tA 5), .ref (tA 6), .ref (tA 7), .ref (tA 8), .long bu2, .int (nI (n + 1))])), (tA 2, .inl (cZ, 16, .inl bs)), (tA 3, .inl (cJ, 16, .inr (.inl (vp_updL os s0 (os s0 ||| ((1 : Int64) <<< ((nI n).toInt64 &&& 63))))))), (tA 4, .inl (cI, 60, .inl (upd sg n (nI s0)))), (tA 5, .inl (cI, 60, .inl (upd fa n (mx_enc qa)))), (tA 6, .inl (cI, 60, .inl (upd fb n (mx_enc qb)))), (tA 7, .inl (cI, 60, .inl (upd fc n (mx_enc qc)))), (tA 8, .inl (cJ, 60, .inr (.inl (vp_updL ins n (((((1 : Int64) <<< ((nI n).toInt64 &&& 63)) ||| in_of ins qa) ||| in_of ins qb) ||| in_of ins qc)))))]) (va_A [(tA 0, .inr (2, [.ref (tA 1), .ref (tA 2), .ref (tA 3), .ref (tA 4), .ref (tA 5), .ref (tA 6), .ref (tA 7), .ref (tA 8), .long bu, .int (nI n)])), (tA 2, .inl (cZ, 16, .inl bs)), (tA 3, .inl (cJ, 16, .inr (.inl os))), (tA 4, .inl (cI, 60, .inl sg)), (tA 5, .inl (cI, 60, .inl fa)), (tA 6, .inl (cI, 60, .inl fb)), (tA 7, .inl (cI, 60, .inl fc)), (tA 8, .inl (cJ, 60, .inr (.inl ins)))] sz)) 0 0 (va_A [(tA 0, .inr (2, [.ref (tA 1), .ref (tA 2), .ref (tA 3), .ref (tA 4), .ref (tA 5), .ref (tA 6), .ref (tA 7), .ref (tA 8), .long bu, .int (nI n)])), (tA 2, .inl (cZ, 16, .inl bs)), (tA 3, .inl (cJ, 16, .inr (.inl os))), (tA 4, .inl (cI, 60, .inl sg)), (tA 5, .inl (cI, 60, .inl fa)), (tA 6, .inl (cI, 60, .inl fb)), (tA 7, .inl (cI, 60, .inl fc)), (tA 8, .inl (cJ, 60, .inr (.inl ins)))] sz) := by
  refine Met.ofW (cc := cX2_add) (maxL := 6) (ret := none) (by decide) rfl ?_
  intro p e s m args below meth c s₁ B hml hv
  obtain ⟨rfl, hsz, hP, hK, hD0⟩ := hv
  have hx := B.exec
  have hb := B.bytes
  have hr := B.returns
  have hts := atoms_spec (ws := wsX2_add) B.pre
  have hown : s.vm.findClass RX2 = some m.cls := findClass_of_methodNamed B.named
  have hlocks := B.notSynchronized
  subst hsz
  have hD := hD0.self (sz := s.heap.size)
  generalize hAe : va_A [(tA 0, .inr (2, [.ref (tA 1), .ref (tA 2), .ref (tA 3), .ref (tA 4), .ref (tA 5), .ref (tA 6), .ref (tA 7), .ref (tA 8), .long bu, .int (nI n)])), (tA 2, .inl (cZ, 16, .inl bs)), (tA 3, .inl (cJ, 16, .inr (.inl os))), (tA 4, .inl (cI, 60, .inl sg)), (tA 5, .inl (cI, 60, .inl fa)), (tA 6, .inl (cI, 60, .inl fb)), (tA 7, .inl (cI, 60, .inl fc)), (tA 8, .inl (cJ, 60, .inr (.inl ins)))] s.heap.size = A at hD ⊢
  have hA : ∀ q : Nat, s.heap.size ≤ q → A q := fun q h => by rw [← hAe]; exact Or.inr h
  have hS : va_S A s.heap s.heap [] := va_S.rf
  have hP : va_P (dC, dI) vwCl [(tA 0, .inr (2, [.ref (tA 1), .ref (tA 2), .ref (tA 3), .ref (tA 4), .ref (tA 5), .ref (tA 6), .ref (tA 7), .ref (tA 8), .long bu, .int (nI n)])), (tA 2, .inl (cZ, 16, .inl bs)), (tA 3, .inl (cJ, 16, .inr (.inl os))), (tA 4, .inl (cI, 60, .inl sg)), (tA 5, .inl (cI, 60, .inl fa)), (tA 6, .inl (cI, 60, .inl fb)), (tA 7, .inl (cI, 60, .inl fc)), (tA 8, .inl (cJ, 60, .inr (.inl ins)))] s.heap := hP
  have hl := lv_entry ([.ref (tA 0), .int (nI s0), .int (mx_enc qa), .int (mx_enc qb), .int (mx_enc qc)]) (n := 6) (Nat.le_of_ble_eq_true rfl)
  rw [lg_entry_eq]
  generalize (lg_sl ([.ref (tA 0), .int (nI s0), .int (mx_enc qa), .int (mx_enc qb), .int (mx_enc qc)]) ++ List.replicate (6 - (lg_sl ([.ref (tA 0), .int (nI s0), .int (mx_enc qa), .int (mx_enc qb), .int (mx_enc qc)])).length) Slot.unset).toArray = ls at hl ⊢
  have hl : lv_has ls 6 [(0, .ref (tA 0)), (1, .int (nI s0)), (2, .int (mx_enc qa)), (3, .int (mx_enc qb)), (4, .int (mx_enc qc))] := hl
  refine lv_aload_n hx hb dX2_add_0 rfl (lv_at hl 0 rfl) ?_
  refine va_get (D := (dC, dI)) (ci := 2) (v := .int (nI n)) (C := RX2) (T := TX2) (N := 10) hx hb hts (fun w h => woX2_add w (inX2 w h)) hown hK hP 0 rfl rfl 9 (by decide) (hts _ (woX2_add _ wd_52)) (fun _ h9 => h9) rfl dX2_add_1 ?_
  refine lv_istore (lv' := [(5, .int (nI n)), (0, .ref (tA 0)), (1, .int (nI s0)), (2, .int (mx_enc qa)), (3, .int (mx_enc qb)), (4, .int (mx_enc qc))]) hx hb dX2_add_4 hl (by decide) rfl (fun ls hl => ?_)
  refine lv_aload_n hx hb dX2_add_6 rfl (lv_at hl 1 rfl) ?_
  refine va_get (D := (dC, dI)) (ci := 2) (v := .ref (tA 4)) (C := RX2) (T := TX2) (N := 10) hx hb hts (fun w h => woX2_add w (inX2 w h)) hown hK hP 0 rfl rfl 3 (by decide) (hts _ (woX2_add _ wd_35)) (fun _ h9 => h9) rfl dX2_add_7 ?_
  refine lv_iload hx hb dX2_add_10 (lv_at hl 0 rfl) ?_
  refine lv_iload_n hx hb dX2_add_12 rfl (lv_at hl 2 rfl) ?_
  refine va_iast hx hb hK hP hD hS 3 0 rfl rfl (vp_in_nI (by omega) (by omega)) dX2_add_13 (fun H locs hP hD hS => ?_)
  rw [show (nI n).toNatClampNeg = n from nI_clamp (by omega)] at hP hD
  have hP : va_P (dC, dI) vwCl [(tA 0, .inr (2, [.ref (tA 1), .ref (tA 2), .ref (tA 3), .ref (tA 4), .ref (tA 5), .ref (tA 6), .ref (tA 7), .ref (tA 8), .long bu, .int (nI n)])), (tA 2, .inl (cZ, 16, .inl bs)), (tA 3, .inl (cJ, 16, .inr (.inl os))), (tA 4, .inl (cI, 60, .inl (upd sg n (nI s0)))), (tA 5, .inl (cI, 60, .inl fa)), (tA 6, .inl (cI, 60, .inl fb)), (tA 7, .inl (cI, 60, .inl fc)), (tA 8, .inl (cJ, 60, .inr (.inl ins)))] H := hP
  have hD : va_D A [(tA 0, .inr (2, [.ref (tA 1), .ref (tA 2), .ref (tA 3), .ref (tA 4), .ref (tA 5), .ref (tA 6), .ref (tA 7), .ref (tA 8), .long bu, .int (nI n)])), (tA 2, .inl (cZ, 16, .inl bs)), (tA 3, .inl (cJ, 16, .inr (.inl os))), (tA 4, .inl (cI, 60, .inl (upd sg n (nI s0)))), (tA 5, .inl (cI, 60, .inl fa)), (tA 6, .inl (cI, 60, .inl fb)), (tA 7, .inl (cI, 60, .inl fc)), (tA 8, .inl (cJ, 60, .inr (.inl ins)))] := hD
  refine lv_aload_n hx hb dX2_add_14 rfl (lv_at hl 1 rfl) ?_
  refine va_get (D := (dC, dI)) (ci := 2) (v := .ref (tA 5)) (C := RX2) (T := TX2) (N := 10) hx hb hts (fun w h => woX2_add w (inX2 w h)) hown hK hP 0 rfl rfl 4 (by decide) (hts _ (woX2_add _ wd_38)) (fun _ h9 => h9) rfl dX2_add_15 ?_
  refine lv_iload hx hb dX2_add_18 (lv_at hl 0 rfl) ?_
  refine lv_iload_n hx hb dX2_add_20 rfl (lv_at hl 3 rfl) ?_
  refine va_iast hx hb hK hP hD hS 4 0 rfl rfl (vp_in_nI (by omega) (by omega)) dX2_add_21 (fun H locs hP hD hS => ?_)
  rw [show (nI n).toNatClampNeg = n from nI_clamp (by omega)] at hP hD
  have hP : va_P (dC, dI) vwCl [(tA 0, .inr (2, [.ref (tA 1), .ref (tA 2), .ref (tA 3), .ref (tA 4), .ref (tA 5), .ref (tA 6), .ref (tA 7), .ref (tA 8), .long bu, .int (nI n)])), (tA 2, .inl (cZ, 16, .inl bs)), (tA 3, .inl (cJ, 16, .inr (.inl os))), (tA 4, .inl (cI, 60, .inl (upd sg n (nI s0)))), (tA 5, .inl (cI, 60, .inl (upd fa n (mx_enc qa)))), (tA 6, .inl (cI, 60, .inl fb)), (tA 7, .inl (cI, 60, .inl fc)), (tA 8, .inl (cJ, 60, .inr (.inl ins)))] H := hP
  have hD : va_D A [(tA 0, .inr (2, [.ref (tA 1), .ref (tA 2), .ref (tA 3), .ref (tA 4), .ref (tA 5), .ref (tA 6), .ref (tA 7), .ref (tA 8), .long bu, .int (nI n)])), (tA 2, .inl (cZ, 16, .inl bs)), (tA 3, .inl (cJ, 16, .inr (.inl os))), (tA 4, .inl (cI, 60, .inl (upd sg n (nI s0)))), (tA 5, .inl (cI, 60, .inl (upd fa n (mx_enc qa)))), (tA 6, .inl (cI, 60, .inl fb)), (tA 7, .inl (cI, 60, .inl fc)), (tA 8, .inl (cJ, 60, .inr (.inl ins)))] := hD
  refine lv_aload_n hx hb dX2_add_22 rfl (lv_at hl 1 rfl) ?_
  refine va_get (D := (dC, dI)) (ci := 2) (v := .ref (tA 6)) (C := RX2) (T := TX2) (N := 10) hx hb hts (fun w h => woX2_add w (inX2 w h)) hown hK hP 0 rfl rfl 5 (by decide) (hts _ (woX2_add _ wd_41)) (fun _ h9 => h9) rfl dX2_add_23 ?_
  refine lv_iload hx hb dX2_add_26 (lv_at hl 0 rfl) ?_
  refine lv_iload_n hx hb dX2_add_28 rfl (lv_at hl 4 rfl) ?_
  refine va_iast hx hb hK hP hD hS 5 0 rfl rfl (vp_in_nI (by omega) (by omega)) dX2_add_29 (fun H locs hP hD hS => ?_)
  rw [show (nI n).toNatClampNeg = n from nI_clamp (by omega)] at hP hD
  have hP : va_P (dC, dI) vwCl [(tA 0, .inr (2, [.ref (tA 1), .ref (tA 2), .ref (tA 3), .ref (tA 4), .ref (tA 5), .ref (tA 6), .ref (tA 7), .ref (tA 8), .long bu, .int (nI n)])), (tA 2, .inl (cZ, 16, .inl bs)), (tA 3, .inl (cJ, 16, .inr (.inl os))), (tA 4, .inl (cI, 60, .inl (upd sg n (nI s0)))), (tA 5, .inl (cI, 60, .inl (upd fa n (mx_enc qa)))), (tA 6, .inl (cI, 60, .inl (upd fb n (mx_enc qb)))), (tA 7, .inl (cI, 60, .inl fc)), (tA 8, .inl (cJ, 60, .inr (.inl ins)))] H := hP
  have hD : va_D A [(tA 0, .inr (2, [.ref (tA 1), .ref (tA 2), .ref (tA 3), .ref (tA 4), .ref (tA 5), .ref (tA 6), .ref (tA 7), .ref (tA 8), .long bu, .int (nI n)])), (tA 2, .inl (cZ, 16, .inl bs)), (tA 3, .inl (cJ, 16, .inr (.inl os))), (tA 4, .inl (cI, 60, .inl (upd sg n (nI s0)))), (tA 5, .inl (cI, 60, .inl (upd fa n (mx_enc qa)))), (tA 6, .inl (cI, 60, .inl (upd fb n (mx_enc qb)))), (tA 7, .inl (cI, 60, .inl fc)), (tA 8, .inl (cJ, 60, .inr (.inl ins)))] := hD
  refine lv_aload_n hx hb dX2_add_30 rfl (lv_at hl 1 rfl) ?_
  refine va_get (D := (dC, dI)) (ci := 2) (v := .ref (tA 7)) (C := RX2) (T := TX2) (N := 10) hx hb hts (fun w h => woX2_add w (inX2 w h)) hown hK hP 0 rfl rfl 6 (by decide) (hts _ (woX2_add _ wd_44)) (fun _ h9 => h9) rfl dX2_add_31 ?_
  refine lv_iload hx hb dX2_add_34 (lv_at hl 0 rfl) ?_
  refine lv_iload hx hb dX2_add_36 (lv_at hl 5 rfl) ?_
  refine va_iast hx hb hK hP hD hS 6 0 rfl rfl (vp_in_nI (by omega) (by omega)) dX2_add_38 (fun H locs hP hD hS => ?_)
  rw [show (nI n).toNatClampNeg = n from nI_clamp (by omega)] at hP hD
  have hP : va_P (dC, dI) vwCl [(tA 0, .inr (2, [.ref (tA 1), .ref (tA 2), .ref (tA 3), .ref (tA 4), .ref (tA 5), .ref (tA 6), .ref (tA 7), .ref (tA 8), .long bu, .int (nI n)])), (tA 2, .inl (cZ, 16, .inl bs)), (tA 3, .inl (cJ, 16, .inr (.inl os))), (tA 4, .inl (cI, 60, .inl (upd sg n (nI s0)))), (tA 5, .inl (cI, 60, .inl (upd fa n (mx_enc qa)))), (tA 6, .inl (cI, 60, .inl (upd fb n (mx_enc qb)))), (tA 7, .inl (cI, 60, .inl (upd fc n (mx_enc qc)))), (tA 8, .inl (cJ, 60, .inr (.inl ins)))] H := hP
  have hD : va_D A [(tA 0, .inr (2, [.ref (tA 1), .ref (tA 2), .ref (tA 3), .ref (tA 4), .ref (tA 5), .ref (tA 6), .ref (tA 7), .ref (tA 8), .long bu, .int (nI n)])), (tA 2, .inl (cZ, 16, .inl bs)), (tA 3, .inl (cJ, 16, .inr (.inl os))), (tA 4, .inl (cI, 60, .inl (upd sg n (nI s0)))), (tA 5, .inl (cI, 60, .inl (upd fa n (mx_enc qa)))), (tA 6, .inl (cI, 60, .inl (upd fb n (mx_enc qb)))), (tA 7, .inl (cI, 60, .inl (upd fc n (mx_enc qc)))), (tA 8, .inl (cJ, 60, .inr (.inl ins)))] := hD
  refine lv_aload_n hx hb dX2_add_39 rfl (lv_at hl 1 rfl) ?_
  refine va_get (D := (dC, dI)) (ci := 2) (v := .ref (tA 8)) (C := RX2) (T := TX2) (N := 10) hx hb hts (fun w h => woX2_add w (inX2 w h)) hown hK hP 0 rfl rfl 7 (by decide) (hts _ (woX2_add _ wd_47)) (fun _ h9 => h9) rfl dX2_add_40 ?_
  refine lv_iload hx hb dX2_add_43 (lv_at hl 0 rfl) ?_
  refine lv_lconst (v := 1) hx hb dX2_add_45 (by decide) ?_
  refine lv_iload hx hb dX2_add_46 (lv_at hl 0 rfl) ?_
  refine lv_lshl (v := (1 : Int64) <<< ((nI n).toInt64 &&& 63)) hx hb dX2_add_48 rfl ?_
  refine lv_aload_n hx hb dX2_add_49 rfl (lv_at hl 1 rfl) ?_
  refine lv_iload_n hx hb dX2_add_50 rfl (lv_at hl 3 rfl) ?_
  have hPc := hP.sub (ws' := [(tA 0, .inr (2, [.ref (tA 1), .ref (tA 2), .ref (tA 3), .ref (tA 4), .ref (tA 5), .ref (tA 6), .ref (tA 7), .ref (tA 8), .long bu, .int (nI n)])), (tA 8, .inl (cJ, 60, .inr (.inl ins)))]) [0, 7] rfl
  refine vp_callSl (W.runV (As := [.int (mx_enc qa)]) (rest := [.long ((1 : Int64) <<< ((nI n).toInt64 &&& 63)), .int (nI n), .ref (tA 8)]) ⟨hx, hb, hml, hown, hts⟩ (c_insideOf l dC dI cI cJ cZ tA n bu ins qa hqa) (cwV 1 hts (w0_goodV woX2_add wd_427 wd_424 wd_425 wd_426 wd_2) rfl rfl rfl (by decide +kernel) ⟨Nat.le_of_ble_eq_true rfl, Nat.le_of_ble_eq_true rfl⟩) ⟨fun a U g mk q => by obtain ⟨q0, qP, qK⟩ := q; exact ⟨q0, qP, va_K.moved (u := U) (U := U.calling g mk a) (Vm.Alike.refl U.vm) qK⟩, va_recv hK hP (ci := 2) (q0 := 0) rfl rfl, fun U hU hW => ⟨rfl, by rw [hU]; exact hPc, va_K.moved hW.alike hK⟩⟩ rfl rfl hl.1 rfl (lv_room (Nat.le_of_ble_eq_true rfl)) dX2_add_51 ⟨Nat.zero_le _, Nat.zero_le _⟩) (fun iqa eqa => ?_)
  have eqa : iqa = in_of ins qa := by rw [eqa]; cases qa <;> rfl
  subst eqa
  refine lv_lor hx hb dX2_add_54 ?_
  refine lv_aload_n hx hb dX2_add_55 rfl (lv_at hl 1 rfl) ?_
  refine lv_iload_n hx hb dX2_add_56 rfl (lv_at hl 4 rfl) ?_
  have hPc := hP.sub (ws' := [(tA 0, .inr (2, [.ref (tA 1), .ref (tA 2), .ref (tA 3), .ref (tA 4), .ref (tA 5), .ref (tA 6), .ref (tA 7), .ref (tA 8), .long bu, .int (nI n)])), (tA 8, .inl (cJ, 60, .inr (.inl ins)))]) [0, 7] rfl
  refine vp_callSl (W.runV (As := [.int (mx_enc qb)]) (rest := [.long (((1 : Int64) <<< ((nI n).toInt64 &&& 63)) ||| (in_of ins qa)), .int (nI n), .ref (tA 8)]) ⟨hx, hb, hml, hown, hts⟩ (c_insideOf l dC dI cI cJ cZ tA n bu ins qb hqb) (cwV 1 hts (w0_goodV woX2_add wd_427 wd_424 wd_425 wd_426 wd_2) rfl rfl rfl (by decide +kernel) ⟨Nat.le_of_ble_eq_true rfl, Nat.le_of_ble_eq_true rfl⟩) ⟨fun a U g mk q => by obtain ⟨q0, qP, qK⟩ := q; exact ⟨q0, qP, va_K.moved (u := U) (U := U.calling g mk a) (Vm.Alike.refl U.vm) qK⟩, va_recv hK hP (ci := 2) (q0 := 0) rfl rfl, fun U hU hW => ⟨rfl, by rw [hU]; exact hPc, va_K.moved hW.alike hK⟩⟩ rfl rfl hl.1 rfl (lv_room (Nat.le_of_ble_eq_true rfl)) dX2_add_57 ⟨Nat.zero_le _, Nat.zero_le _⟩) (fun iqb eqb => ?_)
  have eqb : iqb = in_of ins qb := by rw [eqb]; cases qb <;> rfl
  subst eqb
  refine lv_lor hx hb dX2_add_60 ?_
  refine lv_aload_n hx hb dX2_add_61 rfl (lv_at hl 1 rfl) ?_
  refine lv_iload hx hb dX2_add_62 (lv_at hl 5 rfl) ?_
  have hPc := hP.sub (ws' := [(tA 0, .inr (2, [.ref (tA 1), .ref (tA 2), .ref (tA 3), .ref (tA 4), .ref (tA 5), .ref (tA 6), .ref (tA 7), .ref (tA 8), .long bu, .int (nI n)])), (tA 8, .inl (cJ, 60, .inr (.inl ins)))]) [0, 7] rfl
  refine vp_callSl (W.runV (As := [.int (mx_enc qc)]) (rest := [.long ((((1 : Int64) <<< ((nI n).toInt64 &&& 63)) ||| (in_of ins qa)) ||| (in_of ins qb)), .int (nI n), .ref (tA 8)]) ⟨hx, hb, hml, hown, hts⟩ (c_insideOf l dC dI cI cJ cZ tA n bu ins qc hqc) (cwV 1 hts (w0_goodV woX2_add wd_427 wd_424 wd_425 wd_426 wd_2) rfl rfl rfl (by decide +kernel) ⟨Nat.le_of_ble_eq_true rfl, Nat.le_of_ble_eq_true rfl⟩) ⟨fun a U g mk q => by obtain ⟨q0, qP, qK⟩ := q; exact ⟨q0, qP, va_K.moved (u := U) (U := U.calling g mk a) (Vm.Alike.refl U.vm) qK⟩, va_recv hK hP (ci := 2) (q0 := 0) rfl rfl, fun U hU hW => ⟨rfl, by rw [hU]; exact hPc, va_K.moved hW.alike hK⟩⟩ rfl rfl hl.1 rfl (lv_room (Nat.le_of_ble_eq_true rfl)) dX2_add_64 ⟨Nat.zero_le _, Nat.zero_le _⟩) (fun iqc eqc => ?_)
  have eqc : iqc = in_of ins qc := by rw [eqc]; cases qc <;> rfl
  subst eqc
  refine lv_lor hx hb dX2_add_67 ?_
  refine va_last hx hb hK hP hD hS 7 1 rfl rfl (vp_in_nI (by omega) (by omega)) dX2_add_68 (fun H locs hP hD hS => ?_)
  rw [show (nI n).toNatClampNeg = n from nI_clamp (by omega)] at hP hD
  have hP : va_P (dC, dI) vwCl [(tA 0, .inr (2, [.ref (tA 1), .ref (tA 2), .ref (tA 3), .ref (tA 4), .ref (tA 5), .ref (tA 6), .ref (tA 7), .ref (tA 8), .long bu, .int (nI n)])), (tA 2, .inl (cZ, 16, .inl bs)), (tA 3, .inl (cJ, 16, .inr (.inl os))), (tA 4, .inl (cI, 60, .inl (upd sg n (nI s0)))), (tA 5, .inl (cI, 60, .inl (upd fa n (mx_enc qa)))), (tA 6, .inl (cI, 60, .inl (upd fb n (mx_enc qb)))), (tA 7, .inl (cI, 60, .inl (upd fc n (mx_enc qc)))), (tA 8, .inl (cJ, 60, .inr (.inl (vp_updL ins n (((((1 : Int64) <<< ((nI n).toInt64 &&& 63)) ||| (in_of ins qa)) ||| (in_of ins qb)) ||| (in_of ins qc))))))] H := hP
  have hD : va_D A [(tA 0, .inr (2, [.ref (tA 1), .ref (tA 2), .ref (tA 3), .ref (tA 4), .ref (tA 5), .ref (tA 6), .ref (tA 7), .ref (tA 8), .long bu, .int (nI n)])), (tA 2, .inl (cZ, 16, .inl bs)), (tA 3, .inl (cJ, 16, .inr (.inl os))), (tA 4, .inl (cI, 60, .inl (upd sg n (nI s0)))), (tA 5, .inl (cI, 60, .inl (upd fa n (mx_enc qa)))), (tA 6, .inl (cI, 60, .inl (upd fb n (mx_enc qb)))), (tA 7, .inl (cI, 60, .inl (upd fc n (mx_enc qc)))), (tA 8, .inl (cJ, 60, .inr (.inl (vp_updL ins n (((((1 : Int64) <<< ((nI n).toInt64 &&& 63)) ||| (in_of ins qa)) ||| (in_of ins qb)) ||| (in_of ins qc))))))] := hD
  refine lv_aload_n hx hb dX2_add_69 rfl (lv_at hl 1 rfl) ?_
  refine va_get (D := (dC, dI)) (ci := 2) (v := .ref (tA 3)) (C := RX2) (T := TX2) (N := 10) hx hb hts (fun w h => woX2_add w (inX2 w h)) hown hK hP 0 rfl rfl 2 (by decide) (hts _ (woX2_add _ wd_33)) (fun _ h9 => h9) rfl dX2_add_70 ?_
  refine lv_iload_n hx hb dX2_add_73 rfl (lv_at hl 2 rfl) ?_
  refine lv_dup2_11 hx hb dX2_add_74 rfl rfl ?_
  refine va_lald hx hb hK hP 2 1 rfl rfl (vp_in_nI (by omega) (by omega)) dX2_add_75 ?_
  rw [show (nI s0).toNatClampNeg = s0 from nI_clamp (by omega)]
  refine lv_lconst (v := 1) hx hb dX2_add_76 (by decide) ?_
  refine lv_iload hx hb dX2_add_77 (lv_at hl 0 rfl) ?_
  refine lv_lshl (v := (1 : Int64) <<< ((nI n).toInt64 &&& 63)) hx hb dX2_add_79 rfl ?_
  refine lv_lor hx hb dX2_add_80 ?_
  refine va_last hx hb hK hP hD hS 2 1 rfl rfl (vp_in_nI (by omega) (by omega)) dX2_add_81 (fun H locs hP hD hS => ?_)
  rw [show (nI s0).toNatClampNeg = s0 from nI_clamp (by omega)] at hP hD
  have hP : va_P (dC, dI) vwCl [(tA 0, .inr (2, [.ref (tA 1), .ref (tA 2), .ref (tA 3), .ref (tA 4), .ref (tA 5), .ref (tA 6), .ref (tA 7), .ref (tA 8), .long bu, .int (nI n)])), (tA 2, .inl (cZ, 16, .inl bs)), (tA 3, .inl (cJ, 16, .inr (.inl (vp_updL os s0 ((os s0) ||| ((1 : Int64) <<< ((nI n).toInt64 &&& 63))))))), (tA 4, .inl (cI, 60, .inl (upd sg n (nI s0)))), (tA 5, .inl (cI, 60, .inl (upd fa n (mx_enc qa)))), (tA 6, .inl (cI, 60, .inl (upd fb n (mx_enc qb)))), (tA 7, .inl (cI, 60, .inl (upd fc n (mx_enc qc)))), (tA 8, .inl (cJ, 60, .inr (.inl (vp_updL ins n (((((1 : Int64) <<< ((nI n).toInt64 &&& 63)) ||| (in_of ins qa)) ||| (in_of ins qb)) ||| (in_of ins qc))))))] H := hP
  have hD : va_D A [(tA 0, .inr (2, [.ref (tA 1), .ref (tA 2), .ref (tA 3), .ref (tA 4), .ref (tA 5), .ref (tA 6), .ref (tA 7), .ref (tA 8), .long bu, .int (nI n)])), (tA 2, .inl (cZ, 16, .inl bs)), (tA 3, .inl (cJ, 16, .inr (.inl (vp_updL os s0 ((os s0) ||| ((1 : Int64) <<< ((nI n).toInt64 &&& 63))))))), (tA 4, .inl (cI, 60, .inl (upd sg n (nI s0)))), (tA 5, .inl (cI, 60, .inl (upd fa n (mx_enc qa)))), (tA 6, .inl (cI, 60, .inl (upd fb n (mx_enc qb)))), (tA 7, .inl (cI, 60, .inl (upd fc n (mx_enc qc)))), (tA 8, .inl (cJ, 60, .inr (.inl (vp_updL ins n (((((1 : Int64) <<< ((nI n).toInt64 &&& 63)) ||| (in_of ins qa)) ||| (in_of ins qb)) ||| (in_of ins qc))))))] := hD
  refine lv_aload_n hx hb dX2_add_82 rfl (lv_at hl 1 rfl) ?_
  refine va_get (D := (dC, dI)) (ci := 2) (v := .ref (tA 2)) (C := RX2) (T := TX2) (N := 10) hx hb hts (fun w h => woX2_add w (inX2 w h)) hown hK hP 0 rfl rfl 1 (by decide) (hts _ (woX2_add _ wd_31)) (fun _ h9 => h9) rfl dX2_add_83 ?_
  refine lv_iload_n hx hb dX2_add_86 rfl (lv_at hl 2 rfl) ?_
  refine va_zald hx hb hK hP 1 2 rfl rfl (vp_in_nI (by omega) (by omega)) dX2_add_87 ?_
  rw [show (nI s0).toNatClampNeg = s0 from nI_clamp (by omega)]
  refine lv_if_eq (tgt := 104) hx hb dX2_add_88 (by decide) (fun c1 => ?_) (fun c1 => ?_)
  · refine lv_aload_n hx hb dX2_add_104 rfl (lv_at hl 1 rfl) ?_
    refine lv_dup hx hb dX2_add_105 rfl ?_
    refine va_get (D := (dC, dI)) (ci := 2) (v := .int (nI n)) (C := RX2) (T := TX2) (N := 10) hx hb hts (fun w h => woX2_add w (inX2 w h)) hown hK hP 0 rfl rfl 9 (by decide) (hts _ (woX2_add _ wd_52)) (fun _ h9 => h9) rfl dX2_add_106 ?_
    refine lv_iconst (v := 1) hx hb dX2_add_109 (by decide) ?_
    refine lv_iadd hx hb dX2_add_110 ?_
    refine lv_topi (fun f_1 ef_1 => ?_)
    refine va_put (D := (dC, dI)) (ci := 2) (v := .int f_1) (ty := .int) (C := RX2) (T := TX2) (N := 10) hx hb hts (fun w h => woX2_add w (inX2 w h)) tyX2 tyX2_ok nmX2 hown hK hP hD hS 0 rfl rfl 9 (by decide) (hts _ (woX2_add _ wd_52)) (fun _ h9 => h9) rfl (by decide +kernel) rfl rfl (Nat.le_of_ble_eq_true rfl) dX2_add_111 (fun H locs hP hD hS => ?_)
    have hP : va_P (dC, dI) vwCl [(tA 0, .inr (2, [.ref (tA 1), .ref (tA 2), .ref (tA 3), .ref (tA 4), .ref (tA 5), .ref (tA 6), .ref (tA 7), .ref (tA 8), .long bu, .int f_1])), (tA 2, .inl (cZ, 16, .inl bs)), (tA 3, .inl (cJ, 16, .inr (.inl (vp_updL os s0 ((os s0) ||| ((1 : Int64) <<< ((nI n).toInt64 &&& 63))))))), (tA 4, .inl (cI, 60, .inl (upd sg n (nI s0)))), (tA 5, .inl (cI, 60, .inl (upd fa n (mx_enc qa)))), (tA 6, .inl (cI, 60, .inl (upd fb n (mx_enc qb)))), (tA 7, .inl (cI, 60, .inl (upd fc n (mx_enc qc)))), (tA 8, .inl (cJ, 60, .inr (.inl (vp_updL ins n (((((1 : Int64) <<< ((nI n).toInt64 &&& 63)) ||| (in_of ins qa)) ||| (in_of ins qb)) ||| (in_of ins qc))))))] H := hP
    have hD : va_D A [(tA 0, .inr (2, [.ref (tA 1), .ref (tA 2), .ref (tA 3), .ref (tA 4), .ref (tA 5), .ref (tA 6), .ref (tA 7), .ref (tA 8), .long bu, .int f_1])), (tA 2, .inl (cZ, 16, .inl bs)), (tA 3, .inl (cJ, 16, .inr (.inl (vp_updL os s0 ((os s0) ||| ((1 : Int64) <<< ((nI n).toInt64 &&& 63))))))), (tA 4, .inl (cI, 60, .inl (upd sg n (nI s0)))), (tA 5, .inl (cI, 60, .inl (upd fa n (mx_enc qa)))), (tA 6, .inl (cI, 60, .inl (upd fb n (mx_enc qb)))), (tA 7, .inl (cI, 60, .inl (upd fc n (mx_enc qc)))), (tA 8, .inl (cJ, 60, .inr (.inl (vp_updL ins n (((((1 : Int64) <<< ((nI n).toInt64 &&& 63)) ||| (in_of ins qa)) ||| (in_of ins qb)) ||| (in_of ins qc))))))] := hD
    rw [ef_1, nI_1] at hP hD
    have hP9 := hP.sub (ws' := [(tA 0, .inr (2, [.ref (tA 1), .ref (tA 2), .ref (tA 3), .ref (tA 4), .ref (tA 5), .ref (tA 6), .ref (tA 7), .ref (tA 8), .long bu, .int (nI (n + 1))])), (tA 2, .inl (cZ, 16, .inl bs)), (tA 3, .inl (cJ, 16, .inr (.inl (vp_updL os s0 ((os s0) ||| ((1 : Int64) <<< ((nI n).toInt64 &&& 63))))))), (tA 4, .inl (cI, 60, .inl (upd sg n (nI s0)))), (tA 5, .inl (cI, 60, .inl (upd fa n (mx_enc qa)))), (tA 6, .inl (cI, 60, .inl (upd fb n (mx_enc qb)))), (tA 7, .inl (cI, 60, .inl (upd fc n (mx_enc qc)))), (tA 8, .inl (cJ, 60, .inr (.inl (vp_updL ins n (((((1 : Int64) <<< ((nI n).toInt64 &&& 63)) ||| (in_of ins qa)) ||| (in_of ins qb)) ||| (in_of ins qc))))))]) [0, 1, 2, 3, 4, 5, 6, 7] rfl
    have hD9 := hD.sub (ws' := [(tA 0, .inr (2, [.ref (tA 1), .ref (tA 2), .ref (tA 3), .ref (tA 4), .ref (tA 5), .ref (tA 6), .ref (tA 7), .ref (tA 8), .long bu, .int (nI (n + 1))])), (tA 2, .inl (cZ, 16, .inl bs)), (tA 3, .inl (cJ, 16, .inr (.inl (vp_updL os s0 ((os s0) ||| ((1 : Int64) <<< ((nI n).toInt64 &&& 63))))))), (tA 4, .inl (cI, 60, .inl (upd sg n (nI s0)))), (tA 5, .inl (cI, 60, .inl (upd fa n (mx_enc qa)))), (tA 6, .inl (cI, 60, .inl (upd fb n (mx_enc qb)))), (tA 7, .inl (cI, 60, .inl (upd fc n (mx_enc qc)))), (tA 8, .inl (cJ, 60, .inr (.inl (vp_updL ins n (((((1 : Int64) <<< ((nI n).toInt64 &&& 63)) ||| (in_of ins qa)) ||| (in_of ins qb)) ||| (in_of ins qc))))))]) [0, 1, 2, 3, 4, 5, 6, 7] (by decide) rfl
    exact W.vret hx hb hr (fun t9 ht9 hW9 => ⟨⟨bu, rfl, ⟨fun _ => rfl, fun q => absurd c1 q⟩, by rw [ht9]; exact hP9, va_K.moved hW9.alike hK, hD9⟩, hS.F ht9⟩) hS.2.2 dX2_add_114
  · refine lv_aload_n hx hb dX2_add_91 rfl (lv_at hl 1 rfl) ?_
    refine lv_dup hx hb dX2_add_92 rfl ?_
    refine va_get (D := (dC, dI)) (ci := 2) (v := .long bu) (C := RX2) (T := TX2) (N := 10) hx hb hts (fun w h => woX2_add w (inX2 w h)) hown hK hP 0 rfl rfl 8 (by decide) (hts _ (woX2_add _ wd_49)) (fun _ h9 => h9) rfl dX2_add_93 ?_
    refine lv_lconst (v := 1) hx hb dX2_add_96 (by decide) ?_
    refine lv_iload hx hb dX2_add_97 (lv_at hl 0 rfl) ?_
    refine lv_lshl (v := (1 : Int64) <<< ((nI n).toInt64 &&& 63)) hx hb dX2_add_99 rfl ?_
    refine lv_lor hx hb dX2_add_100 ?_
    refine lv_topl (fun f_2 ef_2 => ?_)
    refine va_put (D := (dC, dI)) (ci := 2) (v := .long f_2) (ty := .long) (C := RX2) (T := TX2) (N := 10) hx hb hts (fun w h => woX2_add w (inX2 w h)) tyX2 tyX2_ok nmX2 hown hK hP hD hS 0 rfl rfl 8 (by decide) (hts _ (woX2_add _ wd_49)) (fun _ h9 => h9) rfl (by decide +kernel) rfl rfl (Nat.le_of_ble_eq_true rfl) dX2_add_101 (fun H locs hP hD hS => ?_)
    have hP : va_P (dC, dI) vwCl [(tA 0, .inr (2, [.ref (tA 1), .ref (tA 2), .ref (tA 3), .ref (tA 4), .ref (tA 5), .ref (tA 6), .ref (tA 7), .ref (tA 8), .long f_2, .int (nI n)])), (tA 2, .inl (cZ, 16, .inl bs)), (tA 3, .inl (cJ, 16, .inr (.inl (vp_updL os s0 ((os s0) ||| ((1 : Int64) <<< ((nI n).toInt64 &&& 63))))))), (tA 4, .inl (cI, 60, .inl (upd sg n (nI s0)))), (tA 5, .inl (cI, 60, .inl (upd fa n (mx_enc qa)))), (tA 6, .inl (cI, 60, .inl (upd fb n (mx_enc qb)))), (tA 7, .inl (cI, 60, .inl (upd fc n (mx_enc qc)))), (tA 8, .inl (cJ, 60, .inr (.inl (vp_updL ins n (((((1 : Int64) <<< ((nI n).toInt64 &&& 63)) ||| (in_of ins qa)) ||| (in_of ins qb)) ||| (in_of ins qc))))))] H := hP
    have hD : va_D A [(tA 0, .inr (2, [.ref (tA 1), .ref (tA 2), .ref (tA 3), .ref (tA 4), .ref (tA 5), .ref (tA 6), .ref (tA 7), .ref (tA 8), .long f_2, .int (nI n)])), (tA 2, .inl (cZ, 16, .inl bs)), (tA 3, .inl (cJ, 16, .inr (.inl (vp_updL os s0 ((os s0) ||| ((1 : Int64) <<< ((nI n).toInt64 &&& 63))))))), (tA 4, .inl (cI, 60, .inl (upd sg n (nI s0)))), (tA 5, .inl (cI, 60, .inl (upd fa n (mx_enc qa)))), (tA 6, .inl (cI, 60, .inl (upd fb n (mx_enc qb)))), (tA 7, .inl (cI, 60, .inl (upd fc n (mx_enc qc)))), (tA 8, .inl (cJ, 60, .inr (.inl (vp_updL ins n (((((1 : Int64) <<< ((nI n).toInt64 &&& 63)) ||| (in_of ins qa)) ||| (in_of ins qb)) ||| (in_of ins qc))))))] := hD
    refine lv_aload_n hx hb dX2_add_104 rfl (lv_at hl 1 rfl) ?_
    refine lv_dup hx hb dX2_add_105 rfl ?_
    refine va_get (D := (dC, dI)) (ci := 2) (v := .int (nI n)) (C := RX2) (T := TX2) (N := 10) hx hb hts (fun w h => woX2_add w (inX2 w h)) hown hK hP 0 rfl rfl 9 (by decide) (hts _ (woX2_add _ wd_52)) (fun _ h9 => h9) rfl dX2_add_106 ?_
    refine lv_iconst (v := 1) hx hb dX2_add_109 (by decide) ?_
    refine lv_iadd hx hb dX2_add_110 ?_
    refine lv_topi (fun f_3 ef_3 => ?_)
    refine va_put (D := (dC, dI)) (ci := 2) (v := .int f_3) (ty := .int) (C := RX2) (T := TX2) (N := 10) hx hb hts (fun w h => woX2_add w (inX2 w h)) tyX2 tyX2_ok nmX2 hown hK hP hD hS 0 rfl rfl 9 (by decide) (hts _ (woX2_add _ wd_52)) (fun _ h9 => h9) rfl (by decide +kernel) rfl rfl (Nat.le_of_ble_eq_true rfl) dX2_add_111 (fun H locs hP hD hS => ?_)
    have hP : va_P (dC, dI) vwCl [(tA 0, .inr (2, [.ref (tA 1), .ref (tA 2), .ref (tA 3), .ref (tA 4), .ref (tA 5), .ref (tA 6), .ref (tA 7), .ref (tA 8), .long f_2, .int f_3])), (tA 2, .inl (cZ, 16, .inl bs)), (tA 3, .inl (cJ, 16, .inr (.inl (vp_updL os s0 ((os s0) ||| ((1 : Int64) <<< ((nI n).toInt64 &&& 63))))))), (tA 4, .inl (cI, 60, .inl (upd sg n (nI s0)))), (tA 5, .inl (cI, 60, .inl (upd fa n (mx_enc qa)))), (tA 6, .inl (cI, 60, .inl (upd fb n (mx_enc qb)))), (tA 7, .inl (cI, 60, .inl (upd fc n (mx_enc qc)))), (tA 8, .inl (cJ, 60, .inr (.inl (vp_updL ins n (((((1 : Int64) <<< ((nI n).toInt64 &&& 63)) ||| (in_of ins qa)) ||| (in_of ins qb)) ||| (in_of ins qc))))))] H := hP
    have hD : va_D A [(tA 0, .inr (2, [.ref (tA 1), .ref (tA 2), .ref (tA 3), .ref (tA 4), .ref (tA 5), .ref (tA 6), .ref (tA 7), .ref (tA 8), .long f_2, .int f_3])), (tA 2, .inl (cZ, 16, .inl bs)), (tA 3, .inl (cJ, 16, .inr (.inl (vp_updL os s0 ((os s0) ||| ((1 : Int64) <<< ((nI n).toInt64 &&& 63))))))), (tA 4, .inl (cI, 60, .inl (upd sg n (nI s0)))), (tA 5, .inl (cI, 60, .inl (upd fa n (mx_enc qa)))), (tA 6, .inl (cI, 60, .inl (upd fb n (mx_enc qb)))), (tA 7, .inl (cI, 60, .inl (upd fc n (mx_enc qc)))), (tA 8, .inl (cJ, 60, .inr (.inl (vp_updL ins n (((((1 : Int64) <<< ((nI n).toInt64 &&& 63)) ||| (in_of ins qa)) ||| (in_of ins qb)) ||| (in_of ins qc))))))] := hD
    rw [ef_3, nI_1] at hP hD
    have hP9 := hP.sub (ws' := [(tA 0, .inr (2, [.ref (tA 1), .ref (tA 2), .ref (tA 3), .ref (tA 4), .ref (tA 5), .ref (tA 6), .ref (tA 7), .ref (tA 8), .long f_2, .int (nI (n + 1))])), (tA 2, .inl (cZ, 16, .inl bs)), (tA 3, .inl (cJ, 16, .inr (.inl (vp_updL os s0 ((os s0) ||| ((1 : Int64) <<< ((nI n).toInt64 &&& 63))))))), (tA 4, .inl (cI, 60, .inl (upd sg n (nI s0)))), (tA 5, .inl (cI, 60, .inl (upd fa n (mx_enc qa)))), (tA 6, .inl (cI, 60, .inl (upd fb n (mx_enc qb)))), (tA 7, .inl (cI, 60, .inl (upd fc n (mx_enc qc)))), (tA 8, .inl (cJ, 60, .inr (.inl (vp_updL ins n (((((1 : Int64) <<< ((nI n).toInt64 &&& 63)) ||| (in_of ins qa)) ||| (in_of ins qb)) ||| (in_of ins qc))))))]) [0, 1, 2, 3, 4, 5, 6, 7] rfl
    have hD9 := hD.sub (ws' := [(tA 0, .inr (2, [.ref (tA 1), .ref (tA 2), .ref (tA 3), .ref (tA 4), .ref (tA 5), .ref (tA 6), .ref (tA 7), .ref (tA 8), .long f_2, .int (nI (n + 1))])), (tA 2, .inl (cZ, 16, .inl bs)), (tA 3, .inl (cJ, 16, .inr (.inl (vp_updL os s0 ((os s0) ||| ((1 : Int64) <<< ((nI n).toInt64 &&& 63))))))), (tA 4, .inl (cI, 60, .inl (upd sg n (nI s0)))), (tA 5, .inl (cI, 60, .inl (upd fa n (mx_enc qa)))), (tA 6, .inl (cI, 60, .inl (upd fb n (mx_enc qb)))), (tA 7, .inl (cI, 60, .inl (upd fc n (mx_enc qc)))), (tA 8, .inl (cJ, 60, .inr (.inl (vp_updL ins n (((((1 : Int64) <<< ((nI n).toInt64 &&& 63)) ||| (in_of ins qa)) ||| (in_of ins qb)) ||| (in_of ins qc))))))]) [0, 1, 2, 3, 4, 5, 6, 7] (by decide) rfl
    exact W.vret hx hb hr (fun t9 ht9 hW9 => ⟨⟨f_2, rfl, ⟨fun q => absurd q c1, fun _ => ef_2⟩, by rw [ht9]; exact hP9, va_K.moved hW9.alike hK, hD9⟩, hS.F ht9⟩) hS.2.2 dX2_add_114
