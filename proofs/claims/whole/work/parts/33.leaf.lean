set_option maxHeartbeats 4000000 in
set_option maxRecDepth 100000 in
/-- isSign: 0 .. 15 -/
theorem c_isSign (l : Launch) (dC : Nat → ClassId) (dI : Nat → Nat → Nat) (cI cJ cZ : ClassId) (o : Nat) (a : Int32) : Met l yX3_isSign wsX3_isSign ({ frames := 0, cells := 0, slots := 0, locals := 0 }) (va_Pc [.ref o, .int a] (fun U => va_P (dC, dI) vwCl [] U.heap ∧ va_K (dC, dI) vwCl [(cI, .int), (cJ, .long), (cZ, .boolean)] U)) (vp_Si (fun r => zb r (ix 16 a))) 0 0 (fun _ => False) := by
  refine Met.ofW (cc := cX3_isSign) (maxL := 2) (ret := (some .boolean)) (by decide) rfl ?_
  intro p e s m args below meth c s₁ B hml hv
  obtain ⟨rfl, hP, hK⟩ := hv
  have hx := B.exec
  have hb := B.bytes
  have hr := B.returns
  have hts := atoms_spec (ws := wsX3_isSign) B.pre
  have hown : s.vm.findClass RX3 = some m.cls := findClass_of_methodNamed B.named
  have hlocks := B.notSynchronized
  have hP : va_P (dC, dI) vwCl [] s.heap := hP
  have hl := lv_entry ([.ref o, .int a]) (n := 2) (Nat.le_of_ble_eq_true rfl)
  rw [lg_entry_eq]
  generalize (lg_sl ([.ref o, .int a]) ++ List.replicate (2 - (lg_sl ([.ref o, .int a])).length) Slot.unset).toArray = ls at hl ⊢
  have hl : lv_has ls 2 [(0, .ref o), (1, .int a)] := hl
  refine lv_iload_n hx hb dX3_isSign_0 rfl (lv_at hl 1 rfl) ?_
  refine lv_if_lt (tgt := 14) hx hb dX3_isSign_1 (by decide) (fun c1 => ?_) (fun c1 => ?_)
  · refine lv_iconst (v := 0) hx hb dX3_isSign_14 (by decide) ?_
    exact W.zret (v := 0) hx hb hr rfl (fun t9 ht9 _ => ⟨_, rfl, Or.inr ⟨rfl, ix_lo (by decide) c1⟩, ht9⟩) (fun q h => by cases h) dX3_isSign_15
  · refine lv_iload_n hx hb dX3_isSign_4 rfl (lv_at hl 1 rfl) ?_
    refine lv_bipush (v := 16) hx hb dX3_isSign_5 (by decide) ?_
    refine lv_icmp_ge (tgt := 14) hx hb dX3_isSign_7 (by decide) (fun c2 => ?_) (fun c2 => ?_)
    · refine lv_iconst (v := 0) hx hb dX3_isSign_14 (by decide) ?_
      exact W.zret (v := 0) hx hb hr rfl (fun t9 ht9 _ => ⟨_, rfl, Or.inr ⟨rfl, ix_hi (by decide) rfl c2⟩, ht9⟩) (fun q h => by cases h) dX3_isSign_15
    · refine lv_iconst (v := 1) hx hb dX3_isSign_10 (by decide) ?_
      refine lv_goto (tgt := 15) hx hb dX3_isSign_11 (by decide) ?_
      exact W.zret (v := 1) hx hb hr rfl (fun t9 ht9 _ => ⟨_, rfl, Or.inl ⟨rfl, ix_in (by decide) rfl c1 c2⟩, ht9⟩) (fun q h => by cases h) dX3_isSign_15

set_option maxHeartbeats 4000000 in
set_option maxRecDepth 100000 in
/-- isTerm: 0 .. n - 1 -/
theorem c_isTerm (l : Launch) (dC : Nat → ClassId) (dI : Nat → Nat → Nat) (cI cJ cZ : ClassId) (o : Nat) (tA : Nat → Nat) (fA : Nat → Nat) (pA : Nat → Nat) (rA : Nat → Nat) (n : Nat) (bu : Int64) (a : Int32) (hn : n < 2 ^ 31) : Met l yX3_isTerm wsX3_isTerm ({ frames := 0, cells := 0, slots := 0, locals := 0 }) (va_Pc [.ref o, .int a] (fun U => va_P (dC, dI) vwCl [(o, .inr (3, [.ref (tA 0), .ref (fA 0), .ref (pA 0), .ref (rA 0)])), (tA 0, .inr (2, [.ref (tA 1), .ref (tA 2), .ref (tA 3), .ref (tA 4), .ref (tA 5), .ref (tA 6), .ref (tA 7), .ref (tA 8), .long bu, .int (nI n)]))] U.heap ∧ va_K (dC, dI) vwCl [(cI, .int), (cJ, .long), (cZ, .boolean)] U)) (vp_Si (fun r => zb r (ix n a))) 0 0 (fun _ => False) := by
  refine Met.ofW (cc := cX3_isTerm) (maxL := 2) (ret := (some .boolean)) (by decide) rfl ?_
  intro p e s m args below meth c s₁ B hml hv
  obtain ⟨rfl, hP, hK⟩ := hv
  have hx := B.exec
  have hb := B.bytes
  have hr := B.returns
  have hts := atoms_spec (ws := wsX3_isTerm) B.pre
  have hown : s.vm.findClass RX3 = some m.cls := findClass_of_methodNamed B.named
  have hlocks := B.notSynchronized
  have hP : va_P (dC, dI) vwCl [(o, .inr (3, [.ref (tA 0), .ref (fA 0), .ref (pA 0), .ref (rA 0)])), (tA 0, .inr (2, [.ref (tA 1), .ref (tA 2), .ref (tA 3), .ref (tA 4), .ref (tA 5), .ref (tA 6), .ref (tA 7), .ref (tA 8), .long bu, .int (nI n)]))] s.heap := hP
  have hl := lv_entry ([.ref o, .int a]) (n := 2) (Nat.le_of_ble_eq_true rfl)
  rw [lg_entry_eq]
  generalize (lg_sl ([.ref o, .int a]) ++ List.replicate (2 - (lg_sl ([.ref o, .int a])).length) Slot.unset).toArray = ls at hl ⊢
  have hl : lv_has ls 2 [(0, .ref o), (1, .int a)] := hl
  refine lv_iload_n hx hb dX3_isTerm_0 rfl (lv_at hl 1 rfl) ?_
  refine lv_if_lt (tgt := 19) hx hb dX3_isTerm_1 (by decide) (fun c1 => ?_) (fun c1 => ?_)
  · refine lv_iconst (v := 0) hx hb dX3_isTerm_19 (by decide) ?_
    exact W.zret (v := 0) hx hb hr rfl (fun t9 ht9 _ => ⟨_, rfl, Or.inr ⟨rfl, ix_lo hn c1⟩, ht9⟩) (fun q h => by cases h) dX3_isTerm_20
  · refine lv_iload_n hx hb dX3_isTerm_4 rfl (lv_at hl 1 rfl) ?_
    refine lv_aload_n hx hb dX3_isTerm_5 rfl (lv_at hl 0 rfl) ?_
    refine va_get (D := (dC, dI)) (ci := 3) (v := .ref (tA 0)) (C := RX3) (T := TX3) (N := 4) hx hb hts (fun w h => woX3_isTerm w (inX3 w h)) hown hK hP 0 rfl rfl 0 (by decide) (hts _ (woX3_isTerm _ wd_142)) (fun _ h9 => h9) rfl dX3_isTerm_6 ?_
    refine va_get (D := (dC, dI)) (ci := 2) (v := .int (nI n)) (C := RX2) (T := TX2) (N := 10) hx hb hts (fun w h => woX3_isTerm w (inX2 w h)) hown hK hP 1 rfl rfl 9 (by decide) (hts _ (woX3_isTerm _ wd_53)) (fun _ h9 => h9) rfl dX3_isTerm_9 ?_
    refine lv_icmp_ge (tgt := 19) hx hb dX3_isTerm_12 (by decide) (fun c2 => ?_) (fun c2 => ?_)
    · refine lv_iconst (v := 0) hx hb dX3_isTerm_19 (by decide) ?_
      exact W.zret (v := 0) hx hb hr rfl (fun t9 ht9 _ => ⟨_, rfl, Or.inr ⟨rfl, ix_hi hn rfl c2⟩, ht9⟩) (fun q h => by cases h) dX3_isTerm_20
    · refine lv_iconst (v := 1) hx hb dX3_isTerm_15 (by decide) ?_
      refine lv_goto (tgt := 20) hx hb dX3_isTerm_16 (by decide) ?_
      exact W.zret (v := 1) hx hb hr rfl (fun t9 ht9 _ => ⟨_, rfl, Or.inl ⟨rfl, ix_in hn rfl c1 c2⟩, ht9⟩) (fun q h => by cases h) dX3_isTerm_20

set_option maxHeartbeats 4000000 in
set_option maxRecDepth 100000 in
/-- isPlace: NONE, or a term -/
theorem c_isPlace (l : Launch) (dC : Nat → ClassId) (dI : Nat → Nat → Nat) (cI cJ cZ : ClassId) (o : Nat) (tA : Nat → Nat) (fA : Nat → Nat) (pA : Nat → Nat) (rA : Nat → Nat) (n : Nat) (bu : Int64) (a : Int32) (hn : n < 2 ^ 31) : Met l yX3_isPlace wsX3_isPlace ({ frames := 1, cells := 0, slots := 0, locals := 21 }) (va_Pc [.ref o, .int a] (fun U => va_P (dC, dI) vwCl [(o, .inr (3, [.ref (tA 0), .ref (fA 0), .ref (pA 0), .ref (rA 0)])), (tA 0, .inr (2, [.ref (tA 1), .ref (tA 2), .ref (tA 3), .ref (tA 4), .ref (tA 5), .ref (tA 6), .ref (tA 7), .ref (tA 8), .long bu, .int (nI n)]))] U.heap ∧ va_K (dC, dI) vwCl [(cI, .int), (cJ, .long), (cZ, .boolean)] U)) (vp_Si (fun r => zb r (a = -1 ∨ ix n a))) 0 0 (fun _ => False) := by
  refine Met.ofW (cc := cX3_isPlace) (maxL := 2) (ret := (some .boolean)) (by decide) rfl ?_
  intro p e s m args below meth c s₁ B hml hv
  obtain ⟨rfl, hP, hK⟩ := hv
  have hx := B.exec
  have hb := B.bytes
  have hr := B.returns
  have hts := atoms_spec (ws := wsX3_isPlace) B.pre
  have hown : s.vm.findClass RX3 = some m.cls := findClass_of_methodNamed B.named
  have hlocks := B.notSynchronized
  have hP : va_P (dC, dI) vwCl [(o, .inr (3, [.ref (tA 0), .ref (fA 0), .ref (pA 0), .ref (rA 0)])), (tA 0, .inr (2, [.ref (tA 1), .ref (tA 2), .ref (tA 3), .ref (tA 4), .ref (tA 5), .ref (tA 6), .ref (tA 7), .ref (tA 8), .long bu, .int (nI n)]))] s.heap := hP
  have hl := lv_entry ([.ref o, .int a]) (n := 2) (Nat.le_of_ble_eq_true rfl)
  rw [lg_entry_eq]
  generalize (lg_sl ([.ref o, .int a]) ++ List.replicate (2 - (lg_sl ([.ref o, .int a])).length) Slot.unset).toArray = ls at hl ⊢
  have hl : lv_has ls 2 [(0, .ref o), (1, .int a)] := hl
  refine lv_iload_n hx hb dX3_isPlace_0 rfl (lv_at hl 1 rfl) ?_
  refine lv_iconst (v := (-1)) hx hb dX3_isPlace_1 (by decide) ?_
  refine lv_icmp_eq (tgt := 13) hx hb dX3_isPlace_2 (by decide) (fun c1 => ?_) (fun c1 => ?_)
  · refine lv_iconst (v := 1) hx hb dX3_isPlace_13 (by decide) ?_
    refine lv_goto (tgt := 18) hx hb dX3_isPlace_14 (by decide) ?_
    exact W.zret (v := 1) hx hb hr rfl (fun t9 ht9 _ => ⟨_, rfl, Or.inl ⟨rfl, Or.inl c1⟩, ht9⟩) (fun q h => by cases h) dX3_isPlace_18
  · refine lv_aload_n hx hb dX3_isPlace_5 rfl (lv_at hl 0 rfl) ?_
    refine lv_iload_n hx hb dX3_isPlace_6 rfl (lv_at hl 1 rfl) ?_
    have hPc := hP.sub (ws' := [(o, .inr (3, [.ref (tA 0), .ref (fA 0), .ref (pA 0), .ref (rA 0)])), (tA 0, .inr (2, [.ref (tA 1), .ref (tA 2), .ref (tA 3), .ref (tA 4), .ref (tA 5), .ref (tA 6), .ref (tA 7), .ref (tA 8), .long bu, .int (nI n)]))]) [0, 1] rfl
    refine vp_callSi (W.runV (As := [.int a]) (rest := []) ⟨hx, hb, hml, hown, hts⟩ (c_isTerm l dC dI cI cJ cZ o tA fA pA rA n bu a hn) (cwV 1 hts (w0_goodV woX3_isPlace wd_162 wd_159 wd_161 ws_0 wd_1) rfl rfl rfl (by decide +kernel) ⟨Nat.le_of_ble_eq_true rfl, Nat.le_of_ble_eq_true rfl⟩) ⟨fun a U g mk q => by obtain ⟨q0, qP, qK⟩ := q; exact ⟨q0, qP, va_K.moved (u := U) (U := U.calling g mk a) (Vm.Alike.refl U.vm) qK⟩, va_recv hK hP (ci := 3) (q0 := 0) rfl rfl, fun U hU hW => ⟨rfl, by rw [hU]; exact hPc, va_K.moved hW.alike hK⟩⟩ rfl rfl hl.1 rfl (lv_room (Nat.le_of_ble_eq_true rfl)) dX3_isPlace_7 ⟨Nat.zero_le _, Nat.zero_le _⟩) (fun r hr1 => ?_)
    refine lv_if_eq (tgt := 17) hx hb dX3_isPlace_10 (by decide) (fun c2 => ?_) (fun c2 => ?_)
    · have h0 := zb_f hr1 c2
      refine lv_iconst (v := 0) hx hb dX3_isPlace_17 (by decide) ?_
      exact W.zret (v := 0) hx hb hr rfl (fun t9 ht9 _ => ⟨_, rfl, Or.inr ⟨rfl, fun q => q.elim c1 h0⟩, ht9⟩) (fun q h => by cases h) dX3_isPlace_18
    · have h0 := zb_t hr1 c2
      refine lv_iconst (v := 1) hx hb dX3_isPlace_13 (by decide) ?_
      refine lv_goto (tgt := 18) hx hb dX3_isPlace_14 (by decide) ?_
      exact W.zret (v := 1) hx hb hr rfl (fun t9 ht9 _ => ⟨_, rfl, Or.inl ⟨rfl, Or.inr h0⟩, ht9⟩) (fun q h => by cases h) dX3_isPlace_18

def cp_of (a b c : Int32) : Nat := if a = -1 then 0 else if b = -1 then 1 else if c = -1 then 2 else 3

set_option maxHeartbeats 4000000 in
set_option maxRecDepth 100000 in
theorem c_countPlaces (l : Launch) (a : Int32) (b : Int32) (d : Int32) : Met l yX3_countPlaces wsX3_countPlaces ({ frames := 0, cells := 0, slots := 0, locals := 0 }) (va_Pc [.int a, .int b, .int d] (fun _ => True)) (vp_Si (fun r => r = nI (cp_of a b d))) 0 0 (fun _ => False) := by
  refine Met.ofW (cc := cX3_countPlaces) (maxL := 3) (ret := (some .int)) (by decide) rfl ?_
  intro p e s m args below meth c s₁ B hml hv
  obtain ⟨rfl, -⟩ := hv
  have hx := B.exec
  have hb := B.bytes
  have hr := B.returns
  have hts := atoms_spec (ws := wsX3_countPlaces) B.pre
  have hown : s.vm.findClass RX3 = some m.cls := findClass_of_methodNamed B.named
  have hlocks := B.notSynchronized
  have hl := lv_entry ([.int a, .int b, .int d]) (n := 3) (Nat.le_of_ble_eq_true rfl)
  rw [lg_entry_eq]
  generalize (lg_sl ([.int a, .int b, .int d]) ++ List.replicate (3 - (lg_sl ([.int a, .int b, .int d])).length) Slot.unset).toArray = ls at hl ⊢
  have hl : lv_has ls 3 [(0, .int a), (1, .int b), (2, .int d)] := hl
  refine lv_iload_n hx hb dX3_countPlaces_0 rfl (lv_at hl 0 rfl) ?_
  refine lv_iconst (v := (-1)) hx hb dX3_countPlaces_1 (by decide) ?_
  refine lv_icmp_ne (tgt := 7) hx hb dX3_countPlaces_2 (by decide) (fun c1 => ?_) (fun c1 => ?_)
  · refine lv_iload_n hx hb dX3_countPlaces_7 rfl (lv_at hl 1 rfl) ?_
    refine lv_iconst (v := (-1)) hx hb dX3_countPlaces_8 (by decide) ?_
    refine lv_icmp_ne (tgt := 14) hx hb dX3_countPlaces_9 (by decide) (fun c2 => ?_) (fun c2 => ?_)
    · refine lv_iload_n hx hb dX3_countPlaces_14 rfl (lv_at hl 2 rfl) ?_
      refine lv_iconst (v := (-1)) hx hb dX3_countPlaces_15 (by decide) ?_
      refine lv_icmp_ne (tgt := 23) hx hb dX3_countPlaces_16 (by decide) (fun c3 => ?_) (fun c3 => ?_)
      · refine lv_iconst (v := 3) hx hb dX3_countPlaces_23 (by decide) ?_
        exact W.iret (v := 3) hx hb hr (fun t9 ht9 _ => ⟨_, rfl, by simp [cp_of, c1, c2, c3]; rfl, ht9⟩) (fun q h => by cases h) dX3_countPlaces_24
      · refine lv_iconst (v := 2) hx hb dX3_countPlaces_19 (by decide) ?_
        refine lv_goto (tgt := 24) hx hb dX3_countPlaces_20 (by decide) ?_
        exact W.iret (v := 2) hx hb hr (fun t9 ht9 _ => ⟨_, rfl, by simp [cp_of, c1, c2, c3]; rfl, ht9⟩) (fun q h => by cases h) dX3_countPlaces_24
    · refine lv_iconst (v := 1) hx hb dX3_countPlaces_12 (by decide) ?_
      exact W.iret (v := 1) hx hb hr (fun t9 ht9 _ => ⟨_, rfl, by simp [cp_of, c1, c2]; rfl, ht9⟩) (fun q h => by cases h) dX3_countPlaces_13
  · refine lv_iconst (v := 0) hx hb dX3_countPlaces_5 (by decide) ?_
    exact W.iret (v := 0) hx hb hr (fun t9 ht9 _ => ⟨_, rfl, by simp [cp_of, c1]; rfl, ht9⟩) (fun q h => by cases h) dX3_countPlaces_6

set_option maxHeartbeats 4000000 in
set_option maxRecDepth 100000 in
/-- areOne -/
theorem c_areOne (l : Launch) (dC : Nat → ClassId) (dI : Nat → Nat → Nat) (cI cJ cZ : ClassId) (rA : Nat → Nat) (tA : Nat → Nat) (nm : Nat → Int32) (un : Int64) (mi : Int32) (a : Nat) (b : Nat) (ha : a < 60) (hb0 : b < 60) : Met l yX1_areOne wsX1_areOne ({ frames := 0, cells := 0, slots := 0, locals := 0 }) (va_Pc [.ref (rA 0), .int (nI a), .int (nI b)] (fun U => va_P (dC, dI) vwCl [(rA 0, .inr (1, [.ref (tA 0), .ref (rA 1), .ref (rA 2), .ref (rA 3), .ref (rA 4), .ref (rA 5), .ref (rA 6), .ref (rA 7), .long un, .int mi])), (rA 1, .inl (cI, 60, .inl nm))] U.heap ∧ va_K (dC, dI) vwCl [(cI, .int), (cJ, .long), (cZ, .boolean)] U)) (vp_Si (fun r => zb r (nm a = nm b))) 0 0 (fun _ => False) := by
  refine Met.ofW (cc := cX1_areOne) (maxL := 3) (ret := (some .boolean)) (by decide) rfl ?_
  intro p e s m args below meth c s₁ B hml hv
  obtain ⟨rfl, hP, hK⟩ := hv
  have hx := B.exec
  have hb := B.bytes
  have hr := B.returns
  have hts := atoms_spec (ws := wsX1_areOne) B.pre
  have hown : s.vm.findClass RX1 = some m.cls := findClass_of_methodNamed B.named
  have hlocks := B.notSynchronized
  have hP : va_P (dC, dI) vwCl [(rA 0, .inr (1, [.ref (tA 0), .ref (rA 1), .ref (rA 2), .ref (rA 3), .ref (rA 4), .ref (rA 5), .ref (rA 6), .ref (rA 7), .long un, .int mi])), (rA 1, .inl (cI, 60, .inl nm))] s.heap := hP
  have hl := lv_entry ([.ref (rA 0), .int (nI a), .int (nI b)]) (n := 3) (Nat.le_of_ble_eq_true rfl)
  rw [lg_entry_eq]
  generalize (lg_sl ([.ref (rA 0), .int (nI a), .int (nI b)]) ++ List.replicate (3 - (lg_sl ([.ref (rA 0), .int (nI a), .int (nI b)])).length) Slot.unset).toArray = ls at hl ⊢
  have hl : lv_has ls 3 [(0, .ref (rA 0)), (1, .int (nI a)), (2, .int (nI b))] := hl
  refine lv_aload_n hx hb dX1_areOne_0 rfl (lv_at hl 0 rfl) ?_
  refine va_get (D := (dC, dI)) (ci := 1) (v := .ref (rA 1)) (C := RX1) (T := TX1) (N := 10) hx hb hts (fun w h => woX1_areOne w (inX1 w h)) hown hK hP 0 rfl rfl 1 (by decide) (hts _ (woX1_areOne _ wd_109)) (fun _ h9 => h9) rfl dX1_areOne_1 ?_
  refine lv_iload_n hx hb dX1_areOne_4 rfl (lv_at hl 1 rfl) ?_
  refine va_iald hx hb hK hP 1 0 rfl rfl (vp_in_nI (by omega) (by omega)) dX1_areOne_5 ?_
  rw [show (nI a).toNatClampNeg = a from nI_clamp (by omega)]
  refine lv_aload_n hx hb dX1_areOne_6 rfl (lv_at hl 0 rfl) ?_
  refine va_get (D := (dC, dI)) (ci := 1) (v := .ref (rA 1)) (C := RX1) (T := TX1) (N := 10) hx hb hts (fun w h => woX1_areOne w (inX1 w h)) hown hK hP 0 rfl rfl 1 (by decide) (hts _ (woX1_areOne _ wd_109)) (fun _ h9 => h9) rfl dX1_areOne_7 ?_
  refine lv_iload_n hx hb dX1_areOne_10 rfl (lv_at hl 2 rfl) ?_
  refine va_iald hx hb hK hP 1 0 rfl rfl (vp_in_nI (by omega) (by omega)) dX1_areOne_11 ?_
  rw [show (nI b).toNatClampNeg = b from nI_clamp (by omega)]
  refine lv_icmp_ne (tgt := 19) hx hb dX1_areOne_12 (by decide) (fun c1 => ?_) (fun c1 => ?_)
  · refine lv_iconst (v := 0) hx hb dX1_areOne_19 (by decide) ?_
    exact W.zret (v := 0) hx hb hr rfl (fun t9 ht9 _ => ⟨_, rfl, Or.inr ⟨rfl, c1⟩, ht9⟩) (fun q h => by cases h) dX1_areOne_20
  · refine lv_iconst (v := 1) hx hb dX1_areOne_15 (by decide) ?_
    refine lv_goto (tgt := 20) hx hb dX1_areOne_16 (by decide) ?_
    exact W.zret (v := 1) hx hb hr rfl (fun t9 ht9 _ => ⟨_, rfl, Or.inl ⟨rfl, c1⟩, ht9⟩) (fun q h => by cases h) dX1_areOne_20

set_option maxHeartbeats 4000000 in
set_option maxRecDepth 100000 in
/-- isBuilt -/
theorem c_isBuilt (l : Launch) (dC : Nat → ClassId) (dI : Nat → Nat → Nat) (cI cJ cZ : ClassId) (tA : Nat → Nat) (bu : Int64) (ct : Int32) (t : Nat) (ht0 : t < 64) : Met l yX2_isBuilt wsX2_isBuilt ({ frames := 0, cells := 0, slots := 0, locals := 0 }) (va_Pc [.ref (tA 0), .int (nI t)] (fun U => va_P (dC, dI) vwCl [(tA 0, .inr (2, [.ref (tA 1), .ref (tA 2), .ref (tA 3), .ref (tA 4), .ref (tA 5), .ref (tA 6), .ref (tA 7), .ref (tA 8), .long bu, .int ct]))] U.heap ∧ va_K (dC, dI) vwCl [(cI, .int), (cJ, .long), (cZ, .boolean)] U)) (vp_Si (fun r => zb r (jb bu t = true))) 0 0 (fun _ => False) := by
  refine Met.ofW (cc := cX2_isBuilt) (maxL := 2) (ret := (some .boolean)) (by decide) rfl ?_
  intro p e s m args below meth c s₁ B hml hv
  obtain ⟨rfl, hP, hK⟩ := hv
  have hx := B.exec
  have hb := B.bytes
  have hr := B.returns
  have hts := atoms_spec (ws := wsX2_isBuilt) B.pre
  have hown : s.vm.findClass RX2 = some m.cls := findClass_of_methodNamed B.named
  have hlocks := B.notSynchronized
  have hP : va_P (dC, dI) vwCl [(tA 0, .inr (2, [.ref (tA 1), .ref (tA 2), .ref (tA 3), .ref (tA 4), .ref (tA 5), .ref (tA 6), .ref (tA 7), .ref (tA 8), .long bu, .int ct]))] s.heap := hP
  have hl := lv_entry ([.ref (tA 0), .int (nI t)]) (n := 2) (Nat.le_of_ble_eq_true rfl)
  rw [lg_entry_eq]
  generalize (lg_sl ([.ref (tA 0), .int (nI t)]) ++ List.replicate (2 - (lg_sl ([.ref (tA 0), .int (nI t)])).length) Slot.unset).toArray = ls at hl ⊢
  have hl : lv_has ls 2 [(0, .ref (tA 0)), (1, .int (nI t))] := hl
  refine lv_aload_n hx hb dX2_isBuilt_0 rfl (lv_at hl 0 rfl) ?_
  refine va_get (D := (dC, dI)) (ci := 2) (v := .long bu) (C := RX2) (T := TX2) (N := 10) hx hb hts (fun w h => woX2_isBuilt w (inX2 w h)) hown hK hP 0 rfl rfl 8 (by decide) (hts _ (woX2_isBuilt _ wd_49)) (fun _ h9 => h9) rfl dX2_isBuilt_1 ?_
  refine lv_iload_n hx hb dX2_isBuilt_4 rfl (lv_at hl 1 rfl) ?_
  refine lv_lshr (v := bu >>> ((nI t).toInt64 &&& 63)) hx hb dX2_isBuilt_5 rfl ?_
  refine lv_lconst (v := 1) hx hb dX2_isBuilt_6 (by decide) ?_
  refine lv_land hx hb dX2_isBuilt_7 ?_
  refine lv_lconst (v := 0) hx hb dX2_isBuilt_8 (by decide) ?_
  refine W.lcmp hx hb dX2_isBuilt_9 ?_
  refine lv_if_eq (tgt := 17) hx hb dX2_isBuilt_10 (by decide) (fun c1 => ?_) (fun c1 => ?_)
  · refine lv_iconst (v := 0) hx hb dX2_isBuilt_17 (by decide) ?_
    exact W.zret (v := 0) hx hb hr rfl (fun t9 ht9 _ => ⟨_, rfl, Or.inr ⟨rfl, fun q => by rw [(jb_tst ht0).mp (lc_0.mp c1)] at q; cases q⟩, ht9⟩) (fun q h => by cases h) dX2_isBuilt_18
  · refine lv_iconst (v := 1) hx hb dX2_isBuilt_13 (by decide) ?_
    refine lv_goto (tgt := 18) hx hb dX2_isBuilt_14 (by decide) ?_
    exact W.zret (v := 1) hx hb hr rfl (fun t9 ht9 _ => ⟨_, rfl, Or.inl ⟨rfl, by cases q : jb bu t with | true => rfl | false => exact absurd (lc_0.mpr ((jb_tst ht0).mpr q)) c1⟩, ht9⟩) (fun q h => by cases h) dX2_isBuilt_18

set_option maxHeartbeats 4000000 in
set_option maxRecDepth 100000 in
/-- all facts, as bits -/
theorem c_all (l : Launch) (dC : Nat → ClassId) (dI : Nat → Nat → Nat) (cI cJ cZ : ClassId) (fA : Nat → Nat) (fn : Nat) (hn : fn < 64) : Met l yX0_all wsX0_all ({ frames := 0, cells := 0, slots := 0, locals := 0 }) (va_Pc [.ref (fA 0)] (fun U => va_P (dC, dI) vwCl [(fA 0, .inr (0, [.ref (fA 1), .ref (fA 2), .ref (fA 3), .int (nI fn)]))] U.heap ∧ va_K (dC, dI) vwCl [(cI, .int), (cJ, .long), (cZ, .boolean)] U)) (vp_Sl (fun r => ∀ i, jb r i = decide (i < fn))) 0 0 (fun _ => False) := by
  refine Met.ofW (cc := cX0_all) (maxL := 1) (ret := (some .long)) (by decide) rfl ?_
  intro p e s m args below meth c s₁ B hml hv
  obtain ⟨rfl, hP, hK⟩ := hv
  have hx := B.exec
  have hb := B.bytes
  have hr := B.returns
  have hts := atoms_spec (ws := wsX0_all) B.pre
  have hown : s.vm.findClass RX0 = some m.cls := findClass_of_methodNamed B.named
  have hlocks := B.notSynchronized
  have hP : va_P (dC, dI) vwCl [(fA 0, .inr (0, [.ref (fA 1), .ref (fA 2), .ref (fA 3), .int (nI fn)]))] s.heap := hP
  have hl := lv_entry ([.ref (fA 0)]) (n := 1) (Nat.le_of_ble_eq_true rfl)
  rw [lg_entry_eq]
  generalize (lg_sl ([.ref (fA 0)]) ++ List.replicate (1 - (lg_sl ([.ref (fA 0)])).length) Slot.unset).toArray = ls at hl ⊢
  have hl : lv_has ls 1 [(0, .ref (fA 0))] := hl
  refine lv_lconst (v := 1) hx hb dX0_all_0 (by decide) ?_
  refine lv_aload_n hx hb dX0_all_1 rfl (lv_at hl 0 rfl) ?_
  refine va_get (D := (dC, dI)) (ci := 0) (v := .int (nI fn)) (C := RX0) (T := TX0) (N := 4) hx hb hts (fun w h => woX0_all w (inX0 w h)) hown hK hP 0 rfl rfl 3 (by decide) (hts _ (woX0_all _ wd_91)) (fun _ h9 => h9) rfl dX0_all_2 ?_
  refine lv_lshl (v := (1 : Int64) <<< ((nI fn).toInt64 &&& 63)) hx hb dX0_all_5 rfl ?_
  refine lv_lconst (v := 1) hx hb dX0_all_6 (by decide) ?_
  refine lv_lsub hx hb dX0_all_7 ?_
  exact W.lret (v := ((1 : Int64) <<< ((nI fn).toInt64 &&& 63)) - 1) hx hb hr (fun t9 ht9 _ => ⟨_, rfl, fun i => jb_mask hn i, ht9⟩) (fun q h => by cases h) dX0_all_8

set_option maxHeartbeats 4000000 in
set_option maxRecDepth 100000 in
/-- bitOf: a place as a bit -/
theorem c_bitOf (l : Launch) (q : Option Nat) (hq : ∀ k, q = some k → k < 64) : Met l yX1_bitOf wsX1_bitOf ({ frames := 0, cells := 0, slots := 0, locals := 0 }) (va_Pc [.int (mx_enc q)] (fun _ => True)) (vp_Sl (fun r => ∀ i, jb r i = decide (q = some i))) 0 0 (fun _ => False) := by
  refine Met.ofW (cc := cX1_bitOf) (maxL := 1) (ret := (some .long)) (by decide) rfl ?_
  intro p e s m args below meth c s₁ B hml hv
  obtain ⟨rfl, -⟩ := hv
  have hx := B.exec
  have hb := B.bytes
  have hr := B.returns
  have hts := atoms_spec (ws := wsX1_bitOf) B.pre
  have hown : s.vm.findClass RX1 = some m.cls := findClass_of_methodNamed B.named
  have hlocks := B.notSynchronized
  have hl := lv_entry ([.int (mx_enc q)]) (n := 1) (Nat.le_of_ble_eq_true rfl)
  rw [lg_entry_eq]
  generalize (lg_sl ([.int (mx_enc q)]) ++ List.replicate (1 - (lg_sl ([.int (mx_enc q)])).length) Slot.unset).toArray = ls at hl ⊢
  have hl : lv_has ls 1 [(0, .int (mx_enc q))] := hl
  refine lv_iload_n hx hb dX1_bitOf_0 rfl (lv_at hl 0 rfl) ?_
  refine lv_iconst (v := (-1)) hx hb dX1_bitOf_1 (by decide) ?_
  refine lv_icmp_ne (tgt := 9) hx hb dX1_bitOf_2 (by decide) (fun c1 => ?_) (fun c1 => ?_)
  · obtain ⟨k, rfl⟩ : ∃ k, q = some k := by cases q with | none => exact absurd rfl c1 | some k => exact ⟨k, rfl⟩
    have hk := hq k rfl
    refine lv_lconst (v := 1) hx hb dX1_bitOf_9 (by decide) ?_
    refine lv_iload_n hx hb dX1_bitOf_10 rfl (lv_at hl 0 rfl) ?_
    refine lv_lshl (v := (1 : Int64) <<< ((mx_enc (some k)).toInt64 &&& 63)) hx hb dX1_bitOf_11 rfl ?_
    exact W.lret (v := (1 : Int64) <<< ((mx_enc (some k)).toInt64 &&& 63)) hx hb hr (fun t9 ht9 _ => ⟨_, rfl, fun i => by rw [show mx_enc (some k) = nI k from rfl, jb_one hk]; exact decide_eq_decide.mpr ⟨fun z => by rw [z], fun z => (Option.some.inj z).symm⟩, ht9⟩) (fun q h => by cases h) dX1_bitOf_12
  · have z := (mx_enc_m1 hq).mp c1
    refine lv_lconst (v := 0) hx hb dX1_bitOf_5 (by decide) ?_
    refine lv_goto (tgt := 12) hx hb dX1_bitOf_6 (by decide) ?_
    exact W.lret (v := 0) hx hb hr (fun t9 ht9 _ => ⟨_, rfl, fun i => by rw [jb_0, z]; simp, ht9⟩) (fun q h => by cases h) dX1_bitOf_12

set_option maxHeartbeats 4000000 in
set_option maxRecDepth 100000 in
/-- insideOf -/
theorem c_insideOf (l : Launch) (dC : Nat → ClassId) (dI : Nat → Nat → Nat) (cI cJ cZ : ClassId) (tA : Nat → Nat) (n : Nat) (bu : Int64) (ins : Nat → Int64) (q : Option Nat) (hq : ∀ k, q = some k → k < 60) : Met l yX2_insideOf wsX2_insideOf ({ frames := 0, cells := 0, slots := 0, locals := 0 }) (va_Pc [.ref (tA 0), .int (mx_enc q)] (fun U => va_P (dC, dI) vwCl [(tA 0, .inr (2, [.ref (tA 1), .ref (tA 2), .ref (tA 3), .ref (tA 4), .ref (tA 5), .ref (tA 6), .ref (tA 7), .ref (tA 8), .long bu, .int (nI n)])), (tA 8, .inl (cJ, 60, .inr (.inl ins)))] U.heap ∧ va_K (dC, dI) vwCl [(cI, .int), (cJ, .long), (cZ, .boolean)] U)) (vp_Sl (fun r => r = (match q with | none => 0 | some k => ins k))) 0 0 (fun _ => False) := by
  refine Met.ofW (cc := cX2_insideOf) (maxL := 2) (ret := (some .long)) (by decide) rfl ?_
  intro p e s m args below meth c s₁ B hml hv
  obtain ⟨rfl, hP, hK⟩ := hv
  have hx := B.exec
  have hb := B.bytes
  have hr := B.returns
  have hts := atoms_spec (ws := wsX2_insideOf) B.pre
  have hown : s.vm.findClass RX2 = some m.cls := findClass_of_methodNamed B.named
  have hlocks := B.notSynchronized
  have hP : va_P (dC, dI) vwCl [(tA 0, .inr (2, [.ref (tA 1), .ref (tA 2), .ref (tA 3), .ref (tA 4), .ref (tA 5), .ref (tA 6), .ref (tA 7), .ref (tA 8), .long bu, .int (nI n)])), (tA 8, .inl (cJ, 60, .inr (.inl ins)))] s.heap := hP
  have hl := lv_entry ([.ref (tA 0), .int (mx_enc q)]) (n := 2) (Nat.le_of_ble_eq_true rfl)
  rw [lg_entry_eq]
  generalize (lg_sl ([.ref (tA 0), .int (mx_enc q)]) ++ List.replicate (2 - (lg_sl ([.ref (tA 0), .int (mx_enc q)])).length) Slot.unset).toArray = ls at hl ⊢
  have hl : lv_has ls 2 [(0, .ref (tA 0)), (1, .int (mx_enc q))] := hl
  refine lv_iload_n hx hb dX2_insideOf_0 rfl (lv_at hl 1 rfl) ?_
  refine lv_iconst (v := (-1)) hx hb dX2_insideOf_1 (by decide) ?_
  refine lv_icmp_ne (tgt := 9) hx hb dX2_insideOf_2 (by decide) (fun c1 => ?_) (fun c1 => ?_)
  · obtain ⟨k, rfl⟩ : ∃ k, q = some k := by cases q with | none => exact absurd rfl c1 | some k => exact ⟨k, rfl⟩
    have hk := hq k rfl
    have hl := lv_sub hl [0, 1] (l' := [(0, .ref (tA 0)), (1, .int (nI k))]) rfl
    refine lv_aload_n hx hb dX2_insideOf_9 rfl (lv_at hl 0 rfl) ?_
    refine va_get (D := (dC, dI)) (ci := 2) (v := .ref (tA 8)) (C := RX2) (T := TX2) (N := 10) hx hb hts (fun w h => woX2_insideOf w (inX2 w h)) hown hK hP 0 rfl rfl 7 (by decide) (hts _ (woX2_insideOf _ wd_47)) (fun _ h9 => h9) rfl dX2_insideOf_10 ?_
    refine lv_iload_n hx hb dX2_insideOf_13 rfl (lv_at hl 1 rfl) ?_
    refine va_lald hx hb hK hP 1 1 rfl rfl (vp_in_nI (by omega) (by omega)) dX2_insideOf_14 ?_
    rw [show (nI k).toNatClampNeg = k from nI_clamp (by omega)]
    exact W.lret (v := ins k) hx hb hr (fun t9 ht9 _ => ⟨_, rfl, rfl, ht9⟩) (fun q h => by cases h) dX2_insideOf_15
  · have z := (mx_enc_m1 (fun k h => Nat.lt_of_lt_of_le (hq k h) (by decide))).mp c1
    refine lv_lconst (v := 0) hx hb dX2_insideOf_5 (by decide) ?_
    refine lv_goto (tgt := 15) hx hb dX2_insideOf_6 (by decide) ?_
    exact W.lret (v := 0) hx hb hr (fun t9 ht9 _ => ⟨_, rfl, by subst z; rfl, ht9⟩) (fun q h => by cases h) dX2_insideOf_15
