/-! THE CLASS's own methods: those that throw, where they throw -/
def tkS : List (Nat × String) := [(41, "no such sign"), (52, "the sign has been used"), (62, "no such sign, or term"), (70, "the sign was used with more or fewer places"), (85, "there are 60 terms"), (124, "there are 40 facts"), (182, "no such term")]
theorem sw_out {x : Int32} {n : Nat} (hn : n < 2 ^ 31) (h : ¬ ix n x) : x.toInt < 0 ∨ (n : Int) ≤ x.toInt := by
  rcases pk_ix x hn with q | q | q
  · exact Or.inl (Int32.lt_iff_toInt_lt.mp q)
  · refine Or.inr ?_
    have := Int32.le_iff_toInt_le.mp q
    rw [nI_toInt hn] at this
    exact this
  · exact absurd q h

set_option maxHeartbeats 4000000 in
set_option maxRecDepth 100000 in
/-- requireTerms throws -/
theorem t_req (l : Launch) (hst : l.stackTraces = false) (dC : Nat → ClassId) (dI : Nat → Nat → Nat) (cI cJ cZ : ClassId) (T : mx_T) (o : Nat) (tA : Nat → Nat) (fA : Nat → Nat) (pA : Nat → Nat) (rA : Nat → Nat) (bu : Int64) (a : Int32) (b : Int32) (hn : mx_n T ≤ 60) (hbad : ¬ (ix (mx_n T) a ∧ ix (mx_n T) b)) : MT l yX3_requireTerms wsX3_requireTerms ({ frames := 6, cells := 1, slots := 6, locals := 82 }) (va_Pc [.ref o, .int a, .int b] (fun U => va_P (dC, dI) vwCl [(o, .inr (3, [.ref (tA 0), .ref (fA 0), .ref (pA 0), .ref (rA 0)])), (tA 0, .inr (2, [.ref (tA 1), .ref (tA 2), .ref (tA 3), .ref (tA 4), .ref (tA 5), .ref (tA 6), .ref (tA 7), .ref (tA 8), .long bu, .int (nI (mx_n T))]))] U.heap ∧ va_K (dC, dI) vwCl [(cI, .int), (cJ, .long), (cZ, .boolean)] U ∧ tkP tkS U)) "java/lang/IndexOutOfBoundsException" := by
  refine MT.ofW (cc := cX3_requireTerms) (maxL := 3) (ret := none) (by decide) rfl ?_
  intro p e s m args below meth c s₁ B hml hv
  obtain ⟨rfl, hP, hK, htk⟩ := hv
  have hx := B.exec
  have hb := B.bytes
  have hr := B.returns
  have hts := atoms_spec (ws := wsX3_requireTerms) B.pre
  have hown : s.vm.findClass RX3 = some m.cls := findClass_of_methodNamed B.named
  have hlocks := B.notSynchronized
  have hE := B.noHandlers (hts _ List.mem_cons_self)
  have hP : va_P (dC, dI) vwCl [(o, .inr (3, [.ref (tA 0), .ref (fA 0), .ref (pA 0), .ref (rA 0)])), (tA 0, .inr (2, [.ref (tA 1), .ref (tA 2), .ref (tA 3), .ref (tA 4), .ref (tA 5), .ref (tA 6), .ref (tA 7), .ref (tA 8), .long bu, .int (nI (mx_n T))]))] s.heap := hP
  have hl := lv_entry ([.ref o, .int a, .int b]) (n := 3) (Nat.le_of_ble_eq_true rfl)
  rw [lg_entry_eq]
  generalize (lg_sl ([.ref o, .int a, .int b]) ++ List.replicate (3 - (lg_sl ([.ref o, .int a, .int b])).length) Slot.unset).toArray = ls at hl ⊢
  have hl : lv_has ls 3 [(0, .ref o), (1, .int a), (2, .int b)] := hl
  refine lv_aload_n hx hb dX3_requireTerms_0 rfl (lv_at hl 0 rfl) ?_
  refine lv_iload_n hx hb dX3_requireTerms_1 rfl (lv_at hl 1 rfl) ?_
  have hPc := hP.sub (ws' := [(o, .inr (3, [.ref (tA 0), .ref (fA 0), .ref (pA 0), .ref (rA 0)])), (tA 0, .inr (2, [.ref (tA 1), .ref (tA 2), .ref (tA 3), .ref (tA 4), .ref (tA 5), .ref (tA 6), .ref (tA 7), .ref (tA 8), .long bu, .int (nI (mx_n T))]))]) [0, 1] rfl
  refine vp_callSi (W.runV (As := [.int a]) (rest := []) ⟨hx, hb, hml, hown, hts⟩ (c_isTerm l dC dI cI cJ cZ o tA fA pA rA (mx_n T) bu a (by omega)) (cwV 1 hts (w0_goodV woX3_requireTerms wd_162 wd_159 wd_161 ws_0 wd_1) rfl rfl rfl (by decide +kernel) ⟨Nat.le_of_ble_eq_true rfl, Nat.le_of_ble_eq_true rfl⟩) ⟨fun a U g mk q => by obtain ⟨q0, qP, qK⟩ := q; exact ⟨q0, qP, va_K.moved (u := U) (U := U.calling g mk a) (Vm.Alike.refl U.vm) qK⟩, va_recv hK hP (ci := 3) (q0 := 0) rfl rfl, fun U hU hW => ⟨rfl, by rw [hU]; exact hPc, va_K.moved hW.alike hK⟩⟩ rfl rfl hl.1 rfl (lv_room (Nat.le_of_ble_eq_true rfl)) dX3_requireTerms_2 ⟨Nat.zero_le _, Nat.zero_le _⟩) (fun r1 hr1 => ?_)
  refine lv_if_eq (tgt := 16) hx hb dX3_requireTerms_5 (by decide) (fun c1 => ?_) (fun c1 => ?_)
  · obtain ⟨q9, hq9⟩ := htk.2.2 (182, "no such term") (by simp [tkS])
    exact W.thr (names := ["java/lang/RuntimeException", "java/lang/Exception"]) hst hx hb hown (hts _ (woX3_requireTerms _ wd_301)) (hts _ (woX3_requireTerms _ wd_302)) (hts _ (woX3_requireTerms _ wd_9)) hq9 (ow_IO (fun w h => hts w (woX3_requireTerms w h)) (htk.1.args _) htk.2.1) (by decide) (by decide) hE (hl.1.trans hml.symm) dX3_requireTerms_16 dX3_requireTerms_19 dX3_requireTerms_20 dX3_requireTerms_22 dX3_requireTerms_25 (Nat.le_of_ble_eq_true rfl) (Nat.le_of_ble_eq_true rfl) (Nat.le_of_ble_eq_true rfl) (Nat.le_of_ble_eq_true rfl) hlocks
  · refine lv_aload_n hx hb dX3_requireTerms_8 rfl (lv_at hl 0 rfl) ?_
    refine lv_iload_n hx hb dX3_requireTerms_9 rfl (lv_at hl 2 rfl) ?_
    have hPc := hP.sub (ws' := [(o, .inr (3, [.ref (tA 0), .ref (fA 0), .ref (pA 0), .ref (rA 0)])), (tA 0, .inr (2, [.ref (tA 1), .ref (tA 2), .ref (tA 3), .ref (tA 4), .ref (tA 5), .ref (tA 6), .ref (tA 7), .ref (tA 8), .long bu, .int (nI (mx_n T))]))]) [0, 1] rfl
    refine vp_callSi (W.runV (As := [.int b]) (rest := []) ⟨hx, hb, hml, hown, hts⟩ (c_isTerm l dC dI cI cJ cZ o tA fA pA rA (mx_n T) bu b (by omega)) (cwV 1 hts (w0_goodV woX3_requireTerms wd_162 wd_159 wd_161 ws_0 wd_1) rfl rfl rfl (by decide +kernel) ⟨Nat.le_of_ble_eq_true rfl, Nat.le_of_ble_eq_true rfl⟩) ⟨fun a U g mk q => by obtain ⟨q0, qP, qK⟩ := q; exact ⟨q0, qP, va_K.moved (u := U) (U := U.calling g mk a) (Vm.Alike.refl U.vm) qK⟩, va_recv hK hP (ci := 3) (q0 := 0) rfl rfl, fun U hU hW => ⟨rfl, by rw [hU]; exact hPc, va_K.moved hW.alike hK⟩⟩ rfl rfl hl.1 rfl (lv_room (Nat.le_of_ble_eq_true rfl)) dX3_requireTerms_10 ⟨Nat.zero_le _, Nat.zero_le _⟩) (fun r2 hr2 => ?_)
    refine lv_if_ne (tgt := 26) hx hb dX3_requireTerms_13 (by decide) (fun c2 => ?_) (fun c2 => ?_)
    · exact absurd ⟨zb_t hr1 c1, zb_t hr2 c2⟩ hbad
    · obtain ⟨q9, hq9⟩ := htk.2.2 (182, "no such term") (by simp [tkS])
      exact W.thr (names := ["java/lang/RuntimeException", "java/lang/Exception"]) hst hx hb hown (hts _ (woX3_requireTerms _ wd_301)) (hts _ (woX3_requireTerms _ wd_302)) (hts _ (woX3_requireTerms _ wd_9)) hq9 (ow_IO (fun w h => hts w (woX3_requireTerms w h)) (htk.1.args _) htk.2.1) (by decide) (by decide) hE (hl.1.trans hml.symm) dX3_requireTerms_16 dX3_requireTerms_19 dX3_requireTerms_20 dX3_requireTerms_22 dX3_requireTerms_25 (Nat.le_of_ble_eq_true rfl) (Nat.le_of_ble_eq_true rfl) (Nat.le_of_ble_eq_true rfl) (Nat.le_of_ble_eq_true rfl) hlocks

set_option maxHeartbeats 4000000 in
set_option maxRecDepth 100000 in
theorem c_req (l : Launch) (dC : Nat → ClassId) (dI : Nat → Nat → Nat) (cI cJ cZ : ClassId) (T : mx_T) (o : Nat) (tA : Nat → Nat) (fA : Nat → Nat) (pA : Nat → Nat) (rA : Nat → Nat) (bu : Int64) (a : Nat) (b : Nat) (hn : mx_n T ≤ 60) (ha : a < mx_n T) (hb0 : b < mx_n T) : Met l yX3_requireTerms wsX3_requireTerms ({ frames := 1, cells := 0, slots := 0, locals := 21 }) (va_Pc [.ref o, .int (nI a), .int (nI b)] (fun U => va_P (dC, dI) vwCl [(o, .inr (3, [.ref (tA 0), .ref (fA 0), .ref (pA 0), .ref (rA 0)])), (tA 0, .inr (2, [.ref (tA 1), .ref (tA 2), .ref (tA 3), .ref (tA 4), .ref (tA 5), .ref (tA 6), .ref (tA 7), .ref (tA 8), .long bu, .int (nI (mx_n T))]))] U.heap ∧ va_K (dC, dI) vwCl [(cI, .int), (cJ, .long), (cZ, .boolean)] U)) (va_Sv (fun _ => True)) 0 0 (fun _ => False) := by
  refine Met.ofW (cc := cX3_requireTerms) (maxL := 3) (ret := none) (by decide) rfl ?_
  intro p e s m args below meth c s₁ B hml hv
  obtain ⟨rfl, hP, hK⟩ := hv
  have hx := B.exec
  have hb := B.bytes
  have hr := B.returns
  have hts := atoms_spec (ws := wsX3_requireTerms) B.pre
  have hown : s.vm.findClass RX3 = some m.cls := findClass_of_methodNamed B.named
  have hlocks := B.notSynchronized
  have hP : va_P (dC, dI) vwCl [(o, .inr (3, [.ref (tA 0), .ref (fA 0), .ref (pA 0), .ref (rA 0)])), (tA 0, .inr (2, [.ref (tA 1), .ref (tA 2), .ref (tA 3), .ref (tA 4), .ref (tA 5), .ref (tA 6), .ref (tA 7), .ref (tA 8), .long bu, .int (nI (mx_n T))]))] s.heap := hP
  have hl := lv_entry ([.ref o, .int (nI a), .int (nI b)]) (n := 3) (Nat.le_of_ble_eq_true rfl)
  rw [lg_entry_eq]
  generalize (lg_sl ([.ref o, .int (nI a), .int (nI b)]) ++ List.replicate (3 - (lg_sl ([.ref o, .int (nI a), .int (nI b)])).length) Slot.unset).toArray = ls at hl ⊢
  have hl : lv_has ls 3 [(0, .ref o), (1, .int (nI a)), (2, .int (nI b))] := hl
  refine lv_aload_n hx hb dX3_requireTerms_0 rfl (lv_at hl 0 rfl) ?_
  refine lv_iload_n hx hb dX3_requireTerms_1 rfl (lv_at hl 1 rfl) ?_
  have hPc := hP.sub (ws' := [(o, .inr (3, [.ref (tA 0), .ref (fA 0), .ref (pA 0), .ref (rA 0)])), (tA 0, .inr (2, [.ref (tA 1), .ref (tA 2), .ref (tA 3), .ref (tA 4), .ref (tA 5), .ref (tA 6), .ref (tA 7), .ref (tA 8), .long bu, .int (nI (mx_n T))]))]) [0, 1] rfl
  refine vp_callSi (W.runV (As := [.int (nI a)]) (rest := []) ⟨hx, hb, hml, hown, hts⟩ (c_isTerm l dC dI cI cJ cZ o tA fA pA rA (mx_n T) bu (nI a) (by omega)) (cwV 1 hts (w0_goodV woX3_requireTerms wd_162 wd_159 wd_161 ws_0 wd_1) rfl rfl rfl (by decide +kernel) ⟨Nat.le_of_ble_eq_true rfl, Nat.le_of_ble_eq_true rfl⟩) ⟨fun a U g mk q => by obtain ⟨q0, qP, qK⟩ := q; exact ⟨q0, qP, va_K.moved (u := U) (U := U.calling g mk a) (Vm.Alike.refl U.vm) qK⟩, va_recv hK hP (ci := 3) (q0 := 0) rfl rfl, fun U hU hW => ⟨rfl, by rw [hU]; exact hPc, va_K.moved hW.alike hK⟩⟩ rfl rfl hl.1 rfl (lv_room (Nat.le_of_ble_eq_true rfl)) dX3_requireTerms_2 ⟨Nat.zero_le _, Nat.zero_le _⟩) (fun r1 hr1 => ?_)
  refine lv_if_eq (tgt := 16) hx hb dX3_requireTerms_5 (by decide) (fun c1 => ?_) (fun c1 => ?_)
  · exact absurd ⟨a, ha, rfl⟩ (zb_f hr1 c1)
  · refine lv_aload_n hx hb dX3_requireTerms_8 rfl (lv_at hl 0 rfl) ?_
    refine lv_iload_n hx hb dX3_requireTerms_9 rfl (lv_at hl 2 rfl) ?_
    have hPc := hP.sub (ws' := [(o, .inr (3, [.ref (tA 0), .ref (fA 0), .ref (pA 0), .ref (rA 0)])), (tA 0, .inr (2, [.ref (tA 1), .ref (tA 2), .ref (tA 3), .ref (tA 4), .ref (tA 5), .ref (tA 6), .ref (tA 7), .ref (tA 8), .long bu, .int (nI (mx_n T))]))]) [0, 1] rfl
    refine vp_callSi (W.runV (As := [.int (nI b)]) (rest := []) ⟨hx, hb, hml, hown, hts⟩ (c_isTerm l dC dI cI cJ cZ o tA fA pA rA (mx_n T) bu (nI b) (by omega)) (cwV 1 hts (w0_goodV woX3_requireTerms wd_162 wd_159 wd_161 ws_0 wd_1) rfl rfl rfl (by decide +kernel) ⟨Nat.le_of_ble_eq_true rfl, Nat.le_of_ble_eq_true rfl⟩) ⟨fun a U g mk q => by obtain ⟨q0, qP, qK⟩ := q; exact ⟨q0, qP, va_K.moved (u := U) (U := U.calling g mk a) (Vm.Alike.refl U.vm) qK⟩, va_recv hK hP (ci := 3) (q0 := 0) rfl rfl, fun U hU hW => ⟨rfl, by rw [hU]; exact hPc, va_K.moved hW.alike hK⟩⟩ rfl rfl hl.1 rfl (lv_room (Nat.le_of_ble_eq_true rfl)) dX3_requireTerms_10 ⟨Nat.zero_le _, Nat.zero_le _⟩) (fun r2 hr2 => ?_)
    refine lv_if_ne (tgt := 26) hx hb dX3_requireTerms_13 (by decide) (fun c2 => ?_) (fun c2 => ?_)
    · exact W.vret hx hb hr (fun t9 ht9 _ => ⟨rfl, trivial, ht9⟩) (fun q h => by cases h) dX3_requireTerms_26
    · exact absurd ⟨b, hb0, rfl⟩ (zb_f hr2 c2)

set_option maxHeartbeats 4000000 in
set_option maxRecDepth 100000 in
theorem t_isOne (l : Launch) (hst : l.stackTraces = false) (dC : Nat → ClassId) (dI : Nat → Nat → Nat) (cI cJ cZ : ClassId) (T : mx_T) (o : Nat) (tA : Nat → Nat) (fA : Nat → Nat) (pA : Nat → Nat) (rA : Nat → Nat) (bu : Int64) (a : Int32) (b : Int32) (hn : mx_n T ≤ 60) (hbad : ¬ (ix (mx_n T) a ∧ ix (mx_n T) b)) : MT l yX3_isOne wsX3_isOne ({ frames := 7, cells := 1, slots := 6, locals := 104 }) (va_Pc [.ref o, .int a, .int b] (fun U => va_P (dC, dI) vwCl [(o, .inr (3, [.ref (tA 0), .ref (fA 0), .ref (pA 0), .ref (rA 0)])), (tA 0, .inr (2, [.ref (tA 1), .ref (tA 2), .ref (tA 3), .ref (tA 4), .ref (tA 5), .ref (tA 6), .ref (tA 7), .ref (tA 8), .long bu, .int (nI (mx_n T))]))] U.heap ∧ va_K (dC, dI) vwCl [(cI, .int), (cJ, .long), (cZ, .boolean)] U ∧ tkP tkS U)) "java/lang/IndexOutOfBoundsException" := by
  refine MT.ofW (cc := cX3_isOne) (maxL := 3) (ret := (some .boolean)) (by decide) rfl ?_
  intro p e s m args below meth c s₁ B hml hv
  obtain ⟨rfl, hP, hK, htk⟩ := hv
  have hx := B.exec
  have hb := B.bytes
  have hr := B.returns
  have hts := atoms_spec (ws := wsX3_isOne) B.pre
  have hown : s.vm.findClass RX3 = some m.cls := findClass_of_methodNamed B.named
  have hlocks := B.notSynchronized
  have hE := B.noHandlers (hts _ List.mem_cons_self)
  have hP : va_P (dC, dI) vwCl [(o, .inr (3, [.ref (tA 0), .ref (fA 0), .ref (pA 0), .ref (rA 0)])), (tA 0, .inr (2, [.ref (tA 1), .ref (tA 2), .ref (tA 3), .ref (tA 4), .ref (tA 5), .ref (tA 6), .ref (tA 7), .ref (tA 8), .long bu, .int (nI (mx_n T))]))] s.heap := hP
  have hl := lv_entry ([.ref o, .int a, .int b]) (n := 3) (Nat.le_of_ble_eq_true rfl)
  rw [lg_entry_eq]
  generalize (lg_sl ([.ref o, .int a, .int b]) ++ List.replicate (3 - (lg_sl ([.ref o, .int a, .int b])).length) Slot.unset).toArray = ls at hl ⊢
  have hl : lv_has ls 3 [(0, .ref o), (1, .int a), (2, .int b)] := hl
  refine lv_aload_n hx hb dX3_isOne_0 rfl (lv_at hl 0 rfl) ?_
  refine lv_iload_n hx hb dX3_isOne_1 rfl (lv_at hl 1 rfl) ?_
  refine lv_iload_n hx hb dX3_isOne_2 rfl (lv_at hl 2 rfl) ?_
  have hPc := hP.sub (ws' := [(o, .inr (3, [.ref (tA 0), .ref (fA 0), .ref (pA 0), .ref (rA 0)])), (tA 0, .inr (2, [.ref (tA 1), .ref (tA 2), .ref (tA 3), .ref (tA 4), .ref (tA 5), .ref (tA 6), .ref (tA 7), .ref (tA 8), .long bu, .int (nI (mx_n T))]))]) [0, 1] rfl
  exact W.passT (As := [.int a, .int b]) (rest := []) ⟨hx, hb, hml, hown, hts⟩ (t_req l hst dC dI cI cJ cZ T o tA fA pA rA bu a b hn hbad) (cwV 2 hts (w0_goodV woX3_isOne wd_448 wd_445 wd_447 ws_11 wd_1) rfl rfl rfl (by decide +kernel) ⟨Nat.le_of_ble_eq_true rfl, Nat.le_of_ble_eq_true rfl⟩) ⟨fun a U g mk q => by obtain ⟨q0, qP, qK, qT⟩ := q; exact ⟨q0, qP, va_K.moved (u := U) (U := U.calling g mk a) (Vm.Alike.refl U.vm) qK, qT.calling g mk a⟩, va_recv hK hP (ci := 3) (q0 := 0) rfl rfl, fun U hU hW => ⟨rfl, by rw [hU]; exact hPc, va_K.moved hW.alike hK, htk.to hW hU⟩⟩ rfl hl.1 rfl (Nat.le_of_ble_eq_true rfl) dX3_isOne_3 ⟨Nat.le_of_ble_eq_true rfl, Nat.le_of_ble_eq_true rfl⟩ hE hlocks

set_option maxHeartbeats 4000000 in
set_option maxRecDepth 100000 in
theorem t_isOther (l : Launch) (hst : l.stackTraces = false) (dC : Nat → ClassId) (dI : Nat → Nat → Nat) (cI cJ cZ : ClassId) (T : mx_T) (o : Nat) (tA : Nat → Nat) (fA : Nat → Nat) (pA : Nat → Nat) (rA : Nat → Nat) (bu : Int64) (a : Int32) (b : Int32) (hn : mx_n T ≤ 60) (hbad : ¬ (ix (mx_n T) a ∧ ix (mx_n T) b)) : MT l yX3_isOther wsX3_isOther ({ frames := 7, cells := 1, slots := 6, locals := 104 }) (va_Pc [.ref o, .int a, .int b] (fun U => va_P (dC, dI) vwCl [(o, .inr (3, [.ref (tA 0), .ref (fA 0), .ref (pA 0), .ref (rA 0)])), (tA 0, .inr (2, [.ref (tA 1), .ref (tA 2), .ref (tA 3), .ref (tA 4), .ref (tA 5), .ref (tA 6), .ref (tA 7), .ref (tA 8), .long bu, .int (nI (mx_n T))]))] U.heap ∧ va_K (dC, dI) vwCl [(cI, .int), (cJ, .long), (cZ, .boolean)] U ∧ tkP tkS U)) "java/lang/IndexOutOfBoundsException" := by
  refine MT.ofW (cc := cX3_isOther) (maxL := 5) (ret := (some .boolean)) (by decide) rfl ?_
  intro p e s m args below meth c s₁ B hml hv
  obtain ⟨rfl, hP, hK, htk⟩ := hv
  have hx := B.exec
  have hb := B.bytes
  have hr := B.returns
  have hts := atoms_spec (ws := wsX3_isOther) B.pre
  have hown : s.vm.findClass RX3 = some m.cls := findClass_of_methodNamed B.named
  have hlocks := B.notSynchronized
  have hE := B.noHandlers (hts _ List.mem_cons_self)
  have hP : va_P (dC, dI) vwCl [(o, .inr (3, [.ref (tA 0), .ref (fA 0), .ref (pA 0), .ref (rA 0)])), (tA 0, .inr (2, [.ref (tA 1), .ref (tA 2), .ref (tA 3), .ref (tA 4), .ref (tA 5), .ref (tA 6), .ref (tA 7), .ref (tA 8), .long bu, .int (nI (mx_n T))]))] s.heap := hP
  have hl := lv_entry ([.ref o, .int a, .int b]) (n := 5) (Nat.le_of_ble_eq_true rfl)
  rw [lg_entry_eq]
  generalize (lg_sl ([.ref o, .int a, .int b]) ++ List.replicate (5 - (lg_sl ([.ref o, .int a, .int b])).length) Slot.unset).toArray = ls at hl ⊢
  have hl : lv_has ls 5 [(0, .ref o), (1, .int a), (2, .int b)] := hl
  refine lv_aload_n hx hb dX3_isOther_0 rfl (lv_at hl 0 rfl) ?_
  refine lv_iload_n hx hb dX3_isOther_1 rfl (lv_at hl 1 rfl) ?_
  refine lv_iload_n hx hb dX3_isOther_2 rfl (lv_at hl 2 rfl) ?_
  have hPc := hP.sub (ws' := [(o, .inr (3, [.ref (tA 0), .ref (fA 0), .ref (pA 0), .ref (rA 0)])), (tA 0, .inr (2, [.ref (tA 1), .ref (tA 2), .ref (tA 3), .ref (tA 4), .ref (tA 5), .ref (tA 6), .ref (tA 7), .ref (tA 8), .long bu, .int (nI (mx_n T))]))]) [0, 1] rfl
  exact W.passT (As := [.int a, .int b]) (rest := []) ⟨hx, hb, hml, hown, hts⟩ (t_req l hst dC dI cI cJ cZ T o tA fA pA rA bu a b hn hbad) (cwV 2 hts (w0_goodV woX3_isOther wd_448 wd_445 wd_447 ws_11 wd_1) rfl rfl rfl (by decide +kernel) ⟨Nat.le_of_ble_eq_true rfl, Nat.le_of_ble_eq_true rfl⟩) ⟨fun a U g mk q => by obtain ⟨q0, qP, qK, qT⟩ := q; exact ⟨q0, qP, va_K.moved (u := U) (U := U.calling g mk a) (Vm.Alike.refl U.vm) qK, qT.calling g mk a⟩, va_recv hK hP (ci := 3) (q0 := 0) rfl rfl, fun U hU hW => ⟨rfl, by rw [hU]; exact hPc, va_K.moved hW.alike hK, htk.to hW hU⟩⟩ rfl hl.1 rfl (Nat.le_of_ble_eq_true rfl) dX3_isOther_3 ⟨Nat.le_of_ble_eq_true rfl, Nat.le_of_ble_eq_true rfl⟩ hE hlocks

set_option maxHeartbeats 4000000 in
set_option maxRecDepth 100000 in
theorem t_reason (l : Launch) (hst : l.stackTraces = false) (dC : Nat → ClassId) (dI : Nat → Nat → Nat) (cI cJ cZ : ClassId) (T : mx_T) (o : Nat) (tA : Nat → Nat) (fA : Nat → Nat) (pA : Nat → Nat) (rA : Nat → Nat) (bu : Int64) (a : Int32) (b : Int32) (hn : mx_n T ≤ 60) (hbad : ¬ (ix (mx_n T) a ∧ ix (mx_n T) b)) : MT l yX3_reason wsX3_reason ({ frames := 7, cells := 1, slots := 6, locals := 104 }) (va_Pc [.ref o, .int a, .int b] (fun U => va_P (dC, dI) vwCl [(o, .inr (3, [.ref (tA 0), .ref (fA 0), .ref (pA 0), .ref (rA 0)])), (tA 0, .inr (2, [.ref (tA 1), .ref (tA 2), .ref (tA 3), .ref (tA 4), .ref (tA 5), .ref (tA 6), .ref (tA 7), .ref (tA 8), .long bu, .int (nI (mx_n T))]))] U.heap ∧ va_K (dC, dI) vwCl [(cI, .int), (cJ, .long), (cZ, .boolean)] U ∧ tkP tkS U)) "java/lang/IndexOutOfBoundsException" := by
  refine MT.ofW (cc := cX3_reason) (maxL := 3) (ret := (some .long)) (by decide) rfl ?_
  intro p e s m args below meth c s₁ B hml hv
  obtain ⟨rfl, hP, hK, htk⟩ := hv
  have hx := B.exec
  have hb := B.bytes
  have hr := B.returns
  have hts := atoms_spec (ws := wsX3_reason) B.pre
  have hown : s.vm.findClass RX3 = some m.cls := findClass_of_methodNamed B.named
  have hlocks := B.notSynchronized
  have hE := B.noHandlers (hts _ List.mem_cons_self)
  have hP : va_P (dC, dI) vwCl [(o, .inr (3, [.ref (tA 0), .ref (fA 0), .ref (pA 0), .ref (rA 0)])), (tA 0, .inr (2, [.ref (tA 1), .ref (tA 2), .ref (tA 3), .ref (tA 4), .ref (tA 5), .ref (tA 6), .ref (tA 7), .ref (tA 8), .long bu, .int (nI (mx_n T))]))] s.heap := hP
  have hl := lv_entry ([.ref o, .int a, .int b]) (n := 3) (Nat.le_of_ble_eq_true rfl)
  rw [lg_entry_eq]
  generalize (lg_sl ([.ref o, .int a, .int b]) ++ List.replicate (3 - (lg_sl ([.ref o, .int a, .int b])).length) Slot.unset).toArray = ls at hl ⊢
  have hl : lv_has ls 3 [(0, .ref o), (1, .int a), (2, .int b)] := hl
  refine lv_aload_n hx hb dX3_reason_0 rfl (lv_at hl 0 rfl) ?_
  refine lv_iload_n hx hb dX3_reason_1 rfl (lv_at hl 1 rfl) ?_
  refine lv_iload_n hx hb dX3_reason_2 rfl (lv_at hl 2 rfl) ?_
  have hPc := hP.sub (ws' := [(o, .inr (3, [.ref (tA 0), .ref (fA 0), .ref (pA 0), .ref (rA 0)])), (tA 0, .inr (2, [.ref (tA 1), .ref (tA 2), .ref (tA 3), .ref (tA 4), .ref (tA 5), .ref (tA 6), .ref (tA 7), .ref (tA 8), .long bu, .int (nI (mx_n T))]))]) [0, 1] rfl
  exact W.passT (As := [.int a, .int b]) (rest := []) ⟨hx, hb, hml, hown, hts⟩ (t_req l hst dC dI cI cJ cZ T o tA fA pA rA bu a b hn hbad) (cwV 2 hts (w0_goodV woX3_reason wd_448 wd_445 wd_447 ws_11 wd_1) rfl rfl rfl (by decide +kernel) ⟨Nat.le_of_ble_eq_true rfl, Nat.le_of_ble_eq_true rfl⟩) ⟨fun a U g mk q => by obtain ⟨q0, qP, qK, qT⟩ := q; exact ⟨q0, qP, va_K.moved (u := U) (U := U.calling g mk a) (Vm.Alike.refl U.vm) qK, qT.calling g mk a⟩, va_recv hK hP (ci := 3) (q0 := 0) rfl rfl, fun U hU hW => ⟨rfl, by rw [hU]; exact hPc, va_K.moved hW.alike hK, htk.to hW hU⟩⟩ rfl hl.1 rfl (Nat.le_of_ble_eq_true rfl) dX3_reason_3 ⟨Nat.le_of_ble_eq_true rfl, Nat.le_of_ble_eq_true rfl⟩ hE hlocks

set_option maxHeartbeats 4000000 in
set_option maxRecDepth 100000 in
theorem t_row (l : Launch) (hst : l.stackTraces = false) (dC : Nat → ClassId) (dI : Nat → Nat → Nat) (cI cJ cZ : ClassId) (T : mx_T) (o : Nat) (tA : Nat → Nat) (fA : Nat → Nat) (pA : Nat → Nat) (rA : Nat → Nat) (bu : Int64) (a : Int32) (w0 : Int32) (hn : mx_n T ≤ 60) (hbad : ¬ (ix (mx_n T) a ∧ ix (mx_n T) a)) : MT l yX3_row wsX3_row ({ frames := 7, cells := 1, slots := 6, locals := 104 }) (va_Pc [.ref o, .int a, .int w0] (fun U => va_P (dC, dI) vwCl [(o, .inr (3, [.ref (tA 0), .ref (fA 0), .ref (pA 0), .ref (rA 0)])), (tA 0, .inr (2, [.ref (tA 1), .ref (tA 2), .ref (tA 3), .ref (tA 4), .ref (tA 5), .ref (tA 6), .ref (tA 7), .ref (tA 8), .long bu, .int (nI (mx_n T))]))] U.heap ∧ va_K (dC, dI) vwCl [(cI, .int), (cJ, .long), (cZ, .boolean)] U ∧ tkP tkS U)) "java/lang/IndexOutOfBoundsException" := by
  refine MT.ofW (cc := cX3_row) (maxL := 5) (ret := (some .int)) (by decide) rfl ?_
  intro p e s m args below meth c s₁ B hml hv
  obtain ⟨rfl, hP, hK, htk⟩ := hv
  have hx := B.exec
  have hb := B.bytes
  have hr := B.returns
  have hts := atoms_spec (ws := wsX3_row) B.pre
  have hown : s.vm.findClass RX3 = some m.cls := findClass_of_methodNamed B.named
  have hlocks := B.notSynchronized
  have hE := B.noHandlers (hts _ List.mem_cons_self)
  have hP : va_P (dC, dI) vwCl [(o, .inr (3, [.ref (tA 0), .ref (fA 0), .ref (pA 0), .ref (rA 0)])), (tA 0, .inr (2, [.ref (tA 1), .ref (tA 2), .ref (tA 3), .ref (tA 4), .ref (tA 5), .ref (tA 6), .ref (tA 7), .ref (tA 8), .long bu, .int (nI (mx_n T))]))] s.heap := hP
  have hl := lv_entry ([.ref o, .int a, .int w0]) (n := 5) (Nat.le_of_ble_eq_true rfl)
  rw [lg_entry_eq]
  generalize (lg_sl ([.ref o, .int a, .int w0]) ++ List.replicate (5 - (lg_sl ([.ref o, .int a, .int w0])).length) Slot.unset).toArray = ls at hl ⊢
  have hl : lv_has ls 5 [(0, .ref o), (1, .int a), (2, .int w0)] := hl
  refine lv_aload_n hx hb dX3_row_0 rfl (lv_at hl 0 rfl) ?_
  refine lv_iload_n hx hb dX3_row_1 rfl (lv_at hl 1 rfl) ?_
  refine lv_iload_n hx hb dX3_row_2 rfl (lv_at hl 1 rfl) ?_
  have hPc := hP.sub (ws' := [(o, .inr (3, [.ref (tA 0), .ref (fA 0), .ref (pA 0), .ref (rA 0)])), (tA 0, .inr (2, [.ref (tA 1), .ref (tA 2), .ref (tA 3), .ref (tA 4), .ref (tA 5), .ref (tA 6), .ref (tA 7), .ref (tA 8), .long bu, .int (nI (mx_n T))]))]) [0, 1] rfl
  exact W.passT (As := [.int a, .int a]) (rest := []) ⟨hx, hb, hml, hown, hts⟩ (t_req l hst dC dI cI cJ cZ T o tA fA pA rA bu a a hn hbad) (cwV 2 hts (w0_goodV woX3_row wd_448 wd_445 wd_447 ws_11 wd_1) rfl rfl rfl (by decide +kernel) ⟨Nat.le_of_ble_eq_true rfl, Nat.le_of_ble_eq_true rfl⟩) ⟨fun a U g mk q => by obtain ⟨q0, qP, qK, qT⟩ := q; exact ⟨q0, qP, va_K.moved (u := U) (U := U.calling g mk a) (Vm.Alike.refl U.vm) qK, qT.calling g mk a⟩, va_recv hK hP (ci := 3) (q0 := 0) rfl rfl, fun U hU hW => ⟨rfl, by rw [hU]; exact hPc, va_K.moved hW.alike hK, htk.to hW hU⟩⟩ rfl hl.1 rfl (Nat.le_of_ble_eq_true rfl) dX3_row_3 ⟨Nat.le_of_ble_eq_true rfl, Nat.le_of_ble_eq_true rfl⟩ hE hlocks

set_option maxHeartbeats 4000000 in
set_option maxRecDepth 100000 in
theorem t_fact1 (l : Launch) (hst : l.stackTraces = false) (dC : Nat → ClassId) (dI : Nat → Nat → Nat) (cI cJ cZ : ClassId) (T : mx_T) (o : Nat) (tA : Nat → Nat) (fA : Nat → Nat) (pA : Nat → Nat) (rA : Nat → Nat) (bu : Int64) (a : Int32) (b : Int32) (sm : Int32) (hn : mx_n T ≤ 60) (hbad : ¬ (ix (mx_n T) a ∧ ix (mx_n T) b)) : MT l yX3_fact wsX3_fact ({ frames := 7, cells := 1, slots := 6, locals := 104 }) (va_Pc [.ref o, .int a, .int b, .int sm] (fun U => va_P (dC, dI) vwCl [(o, .inr (3, [.ref (tA 0), .ref (fA 0), .ref (pA 0), .ref (rA 0)])), (tA 0, .inr (2, [.ref (tA 1), .ref (tA 2), .ref (tA 3), .ref (tA 4), .ref (tA 5), .ref (tA 6), .ref (tA 7), .ref (tA 8), .long bu, .int (nI (mx_n T))]))] U.heap ∧ va_K (dC, dI) vwCl [(cI, .int), (cJ, .long), (cZ, .boolean)] U ∧ tkP tkS U)) "java/lang/IndexOutOfBoundsException" := by
  refine MT.ofW (cc := cX3_fact) (maxL := 5) (ret := (some .int)) (by decide) rfl ?_
  intro p e s m args below meth c s₁ B hml hv
  obtain ⟨rfl, hP, hK, htk⟩ := hv
  have hx := B.exec
  have hb := B.bytes
  have hr := B.returns
  have hts := atoms_spec (ws := wsX3_fact) B.pre
  have hown : s.vm.findClass RX3 = some m.cls := findClass_of_methodNamed B.named
  have hlocks := B.notSynchronized
  have hE := B.noHandlers (hts _ List.mem_cons_self)
  have hP : va_P (dC, dI) vwCl [(o, .inr (3, [.ref (tA 0), .ref (fA 0), .ref (pA 0), .ref (rA 0)])), (tA 0, .inr (2, [.ref (tA 1), .ref (tA 2), .ref (tA 3), .ref (tA 4), .ref (tA 5), .ref (tA 6), .ref (tA 7), .ref (tA 8), .long bu, .int (nI (mx_n T))]))] s.heap := hP
  have hl := lv_entry ([.ref o, .int a, .int b, .int sm]) (n := 5) (Nat.le_of_ble_eq_true rfl)
  rw [lg_entry_eq]
  generalize (lg_sl ([.ref o, .int a, .int b, .int sm]) ++ List.replicate (5 - (lg_sl ([.ref o, .int a, .int b, .int sm])).length) Slot.unset).toArray = ls at hl ⊢
  have hl : lv_has ls 5 [(0, .ref o), (1, .int a), (2, .int b), (3, .int sm)] := hl
  refine lv_aload_n hx hb dX3_fact_0 rfl (lv_at hl 0 rfl) ?_
  refine lv_iload_n hx hb dX3_fact_1 rfl (lv_at hl 1 rfl) ?_
  refine lv_iload_n hx hb dX3_fact_2 rfl (lv_at hl 2 rfl) ?_
  have hPc := hP.sub (ws' := [(o, .inr (3, [.ref (tA 0), .ref (fA 0), .ref (pA 0), .ref (rA 0)])), (tA 0, .inr (2, [.ref (tA 1), .ref (tA 2), .ref (tA 3), .ref (tA 4), .ref (tA 5), .ref (tA 6), .ref (tA 7), .ref (tA 8), .long bu, .int (nI (mx_n T))]))]) [0, 1] rfl
  exact W.passT (As := [.int a, .int b]) (rest := []) ⟨hx, hb, hml, hown, hts⟩ (t_req l hst dC dI cI cJ cZ T o tA fA pA rA bu a b hn hbad) (cwV 2 hts (w0_goodV woX3_fact wd_448 wd_445 wd_447 ws_11 wd_1) rfl rfl rfl (by decide +kernel) ⟨Nat.le_of_ble_eq_true rfl, Nat.le_of_ble_eq_true rfl⟩) ⟨fun a U g mk q => by obtain ⟨q0, qP, qK, qT⟩ := q; exact ⟨q0, qP, va_K.moved (u := U) (U := U.calling g mk a) (Vm.Alike.refl U.vm) qK, qT.calling g mk a⟩, va_recv hK hP (ci := 3) (q0 := 0) rfl rfl, fun U hU hW => ⟨rfl, by rw [hU]; exact hPc, va_K.moved hW.alike hK, htk.to hW hU⟩⟩ rfl hl.1 rfl (Nat.le_of_ble_eq_true rfl) dX3_fact_3 ⟨Nat.le_of_ble_eq_true rfl, Nat.le_of_ble_eq_true rfl⟩ hE hlocks

set_option maxHeartbeats 4000000 in
set_option maxRecDepth 100000 in
theorem t_fact2 (l : Launch) (hst : l.stackTraces = false) (dC : Nat → ClassId) (dI : Nat → Nat → Nat) (cI cJ cZ : ClassId) (T : mx_T) (o : Nat) (tA : Nat → Nat) (fA : Nat → Nat) (pA : Nat → Nat) (rA : Nat → Nat) (bu : Int64) (F : mx_F) (a : Nat) (b : Nat) (sm : Int32) (hn : mx_n T ≤ 60) (ha : a < mx_n T) (hb0 : b < mx_n T) (hm : mx_m F ≤ 40) (hfull : ¬ mx_m F < 40) : MT l yX3_fact wsX3_fact ({ frames := 6, cells := 1, slots := 6, locals := 82 }) (va_Pc [.ref o, .int (nI a), .int (nI b), .int sm] (fun U => va_P (dC, dI) vwCl [(o, .inr (3, [.ref (tA 0), .ref (fA 0), .ref (pA 0), .ref (rA 0)])), (tA 0, .inr (2, [.ref (tA 1), .ref (tA 2), .ref (tA 3), .ref (tA 4), .ref (tA 5), .ref (tA 6), .ref (tA 7), .ref (tA 8), .long bu, .int (nI (mx_n T))])), (fA 0, .inr (0, [.ref (fA 1), .ref (fA 2), .ref (fA 3), .int (nI (mx_m F))]))] U.heap ∧ va_K (dC, dI) vwCl [(cI, .int), (cJ, .long), (cZ, .boolean)] U ∧ tkP tkS U)) "java/lang/IllegalStateException" := by
  refine MT.ofW (cc := cX3_fact) (maxL := 5) (ret := (some .int)) (by decide) rfl ?_
  intro p e s m args below meth c s₁ B hml hv
  obtain ⟨rfl, hP, hK, htk⟩ := hv
  have hx := B.exec
  have hb := B.bytes
  have hr := B.returns
  have hts := atoms_spec (ws := wsX3_fact) B.pre
  have hown : s.vm.findClass RX3 = some m.cls := findClass_of_methodNamed B.named
  have hlocks := B.notSynchronized
  have hE := B.noHandlers (hts _ List.mem_cons_self)
  have hP : va_P (dC, dI) vwCl [(o, .inr (3, [.ref (tA 0), .ref (fA 0), .ref (pA 0), .ref (rA 0)])), (tA 0, .inr (2, [.ref (tA 1), .ref (tA 2), .ref (tA 3), .ref (tA 4), .ref (tA 5), .ref (tA 6), .ref (tA 7), .ref (tA 8), .long bu, .int (nI (mx_n T))])), (fA 0, .inr (0, [.ref (fA 1), .ref (fA 2), .ref (fA 3), .int (nI (mx_m F))]))] s.heap := hP
  have hl := lv_entry ([.ref o, .int (nI a), .int (nI b), .int sm]) (n := 5) (Nat.le_of_ble_eq_true rfl)
  rw [lg_entry_eq]
  generalize (lg_sl ([.ref o, .int (nI a), .int (nI b), .int sm]) ++ List.replicate (5 - (lg_sl ([.ref o, .int (nI a), .int (nI b), .int sm])).length) Slot.unset).toArray = ls at hl ⊢
  have hl : lv_has ls 5 [(0, .ref o), (1, .int (nI a)), (2, .int (nI b)), (3, .int sm)] := hl
  refine lv_aload_n hx hb dX3_fact_0 rfl (lv_at hl 0 rfl) ?_
  refine lv_iload_n hx hb dX3_fact_1 rfl (lv_at hl 1 rfl) ?_
  refine lv_iload_n hx hb dX3_fact_2 rfl (lv_at hl 2 rfl) ?_
  have hPc := hP.sub (ws' := [(o, .inr (3, [.ref (tA 0), .ref (fA 0), .ref (pA 0), .ref (rA 0)])), (tA 0, .inr (2, [.ref (tA 1), .ref (tA 2), .ref (tA 3), .ref (tA 4), .ref (tA 5), .ref (tA 6), .ref (tA 7), .ref (tA 8), .long bu, .int (nI (mx_n T))]))]) [0, 1] rfl
  refine va_csv (W.runV (As := [.int (nI a), .int (nI b)]) (rest := []) ⟨hx, hb, hml, hown, hts⟩ (c_req l dC dI cI cJ cZ T o tA fA pA rA bu a b hn ha hb0) (cwV 2 hts (w0_goodV woX3_fact wd_448 wd_445 wd_447 ws_11 wd_1) rfl rfl rfl (by decide +kernel) ⟨Nat.le_of_ble_eq_true rfl, Nat.le_of_ble_eq_true rfl⟩) ⟨fun a U g mk q => by obtain ⟨q0, qP, qK⟩ := q; exact ⟨q0, qP, va_K.moved (u := U) (U := U.calling g mk a) (Vm.Alike.refl U.vm) qK⟩, va_recv hK hP (ci := 3) (q0 := 0) rfl rfl, fun U hU hW => ⟨rfl, by rw [hU]; exact hPc, va_K.moved hW.alike hK⟩⟩ rfl rfl hl.1 rfl (lv_room (Nat.le_of_ble_eq_true rfl)) dX3_fact_3 ⟨Nat.zero_le _, Nat.zero_le _⟩) (fun hr0 => ?_)
  refine lv_aload_n hx hb dX3_fact_6 rfl (lv_at hl 0 rfl) ?_
  refine va_get (D := (dC, dI)) (ci := 3) (v := .ref (fA 0)) (C := RX3) (T := TX3) (N := 4) hx hb hts (fun w h => woX3_fact w (inX3 w h)) hown hK hP 0 rfl rfl 1 (by decide) (hts _ (woX3_fact _ wd_143)) (fun _ h9 => h9) rfl dX3_fact_7 ?_
  refine va_get (D := (dC, dI)) (ci := 0) (v := .int (nI (mx_m F))) (C := RX0) (T := TX0) (N := 4) hx hb hts (fun w h => woX3_fact w (inX0 w h)) hown hK hP 2 rfl rfl 3 (by decide) (hts _ (woX3_fact _ wd_92)) (fun _ h9 => h9) rfl dX3_fact_10 ?_
  refine lv_bipush (v := 40) hx hb dX3_fact_13 (by decide) ?_
  refine lv_icmp_lt (tgt := 28) hx hb dX3_fact_15 (by decide) (fun c1 => ?_) (fun c1 => ?_)
  · exact absurd ((nI_ltI (a := mx_m F) (b := 40) (by omega) (by omega)).mp c1) hfull
  · obtain ⟨q9, hq9⟩ := htk.2.2 (124, "there are 40 facts") (by simp [tkS])
    exact W.thr (names := ["java/lang/RuntimeException", "java/lang/Exception"]) hst hx hb hown (hts _ (woX3_fact _ wd_369)) (hts _ (woX3_fact _ wd_370)) (hts _ (woX3_fact _ wd_10)) hq9 (ow_IS (fun w h => hts w (woX3_fact w h)) (htk.1.args _) htk.2.1) (by decide) (by decide) hE (hl.1.trans hml.symm) dX3_fact_18 dX3_fact_21 dX3_fact_22 dX3_fact_24 dX3_fact_27 (Nat.le_of_ble_eq_true rfl) (Nat.le_of_ble_eq_true rfl) (Nat.le_of_ble_eq_true rfl) (Nat.le_of_ble_eq_true rfl) hlocks

set_option maxHeartbeats 4000000 in
set_option maxRecDepth 100000 in
theorem t_builder1 (l : Launch) (hst : l.stackTraces = false) (dC : Nat → ClassId) (dI : Nat → Nat → Nat) (cI cJ cZ : ClassId) (T : mx_T) (o : Nat) (tA : Nat → Nat) (fA : Nat → Nat) (pA : Nat → Nat) (rA : Nat → Nat) (bu : Int64) (sv : Int32) (hbad : ¬ ix 16 sv) : MT l yX3_builder wsX3_builder ({ frames := 6, cells := 1, slots := 6, locals := 82 }) (va_Pc [.ref o, .int sv] (fun U => va_P (dC, dI) vwCl [(o, .inr (3, [.ref (tA 0), .ref (fA 0), .ref (pA 0), .ref (rA 0)])), (tA 0, .inr (2, [.ref (tA 1), .ref (tA 2), .ref (tA 3), .ref (tA 4), .ref (tA 5), .ref (tA 6), .ref (tA 7), .ref (tA 8), .long bu, .int (nI (mx_n T))]))] U.heap ∧ va_K (dC, dI) vwCl [(cI, .int), (cJ, .long), (cZ, .boolean)] U ∧ tkP tkS U)) "java/lang/IndexOutOfBoundsException" := by
  refine MT.ofW (cc := cX3_builder) (maxL := 2) (ret := none) (by decide) rfl ?_
  intro p e s m args below meth c s₁ B hml hv
  obtain ⟨rfl, hP, hK, htk⟩ := hv
  have hx := B.exec
  have hb := B.bytes
  have hr := B.returns
  have hts := atoms_spec (ws := wsX3_builder) B.pre
  have hown : s.vm.findClass RX3 = some m.cls := findClass_of_methodNamed B.named
  have hlocks := B.notSynchronized
  have hE := B.noHandlers (hts _ List.mem_cons_self)
  have hP : va_P (dC, dI) vwCl [(o, .inr (3, [.ref (tA 0), .ref (fA 0), .ref (pA 0), .ref (rA 0)])), (tA 0, .inr (2, [.ref (tA 1), .ref (tA 2), .ref (tA 3), .ref (tA 4), .ref (tA 5), .ref (tA 6), .ref (tA 7), .ref (tA 8), .long bu, .int (nI (mx_n T))]))] s.heap := hP
  have hl := lv_entry ([.ref o, .int sv]) (n := 2) (Nat.le_of_ble_eq_true rfl)
  rw [lg_entry_eq]
  generalize (lg_sl ([.ref o, .int sv]) ++ List.replicate (2 - (lg_sl ([.ref o, .int sv])).length) Slot.unset).toArray = ls at hl ⊢
  have hl : lv_has ls 2 [(0, .ref o), (1, .int sv)] := hl
  refine lv_aload_n hx hb dX3_builder_0 rfl (lv_at hl 0 rfl) ?_
  refine lv_iload_n hx hb dX3_builder_1 rfl (lv_at hl 1 rfl) ?_
  have hPc := hP.sub (ws' := []) [] rfl
  refine vp_callSi (W.runV (As := [.int sv]) (rest := []) ⟨hx, hb, hml, hown, hts⟩ (c_isSign l dC dI cI cJ cZ o sv) (cwV 1 hts (w0_goodV woX3_builder wd_300 wd_297 wd_299 ws_8 wd_1) rfl rfl rfl (by decide +kernel) ⟨Nat.le_of_ble_eq_true rfl, Nat.le_of_ble_eq_true rfl⟩) ⟨fun a U g mk q => by obtain ⟨q0, qP, qK⟩ := q; exact ⟨q0, qP, va_K.moved (u := U) (U := U.calling g mk a) (Vm.Alike.refl U.vm) qK⟩, va_recv hK hP (ci := 3) (q0 := 0) rfl rfl, fun U hU hW => ⟨rfl, by rw [hU]; exact hPc, va_K.moved hW.alike hK⟩⟩ rfl rfl hl.1 rfl (lv_room (Nat.le_of_ble_eq_true rfl)) dX3_builder_2 ⟨Nat.zero_le _, Nat.zero_le _⟩) (fun r1 hr1 => ?_)
  refine lv_if_ne (tgt := 18) hx hb dX3_builder_5 (by decide) (fun c1 => ?_) (fun c1 => ?_)
  · exact absurd (zb_t hr1 c1) hbad
  · obtain ⟨q9, hq9⟩ := htk.2.2 (41, "no such sign") (by simp [tkS])
    exact W.thr (names := ["java/lang/RuntimeException", "java/lang/Exception"]) hst hx hb hown (hts _ (woX3_builder _ wd_301)) (hts _ (woX3_builder _ wd_302)) (hts _ (woX3_builder _ wd_9)) hq9 (ow_IO (fun w h => hts w (woX3_builder w h)) (htk.1.args _) htk.2.1) (by decide) (by decide) hE (hl.1.trans hml.symm) dX3_builder_8 dX3_builder_11 dX3_builder_12 dX3_builder_14 dX3_builder_17 (Nat.le_of_ble_eq_true rfl) (Nat.le_of_ble_eq_true rfl) (Nat.le_of_ble_eq_true rfl) (Nat.le_of_ble_eq_true rfl) hlocks

set_option maxHeartbeats 4000000 in
set_option maxRecDepth 100000 in
theorem t_builder2 (l : Launch) (hst : l.stackTraces = false) (dC : Nat → ClassId) (dI : Nat → Nat → Nat) (cI cJ cZ : ClassId) (T : mx_T) (o : Nat) (tA : Nat → Nat) (fA : Nat → Nat) (pA : Nat → Nat) (rA : Nat → Nat) (bu : Int64) (po : Nat → Int32) (s0 : Nat) (hs0 : s0 < 16) (hpo : ¬ po s0 = -1) : MT l yX3_builder wsX3_builder ({ frames := 6, cells := 1, slots := 6, locals := 82 }) (va_Pc [.ref o, .int (nI s0)] (fun U => va_P (dC, dI) vwCl [(o, .inr (3, [.ref (tA 0), .ref (fA 0), .ref (pA 0), .ref (rA 0)])), (tA 0, .inr (2, [.ref (tA 1), .ref (tA 2), .ref (tA 3), .ref (tA 4), .ref (tA 5), .ref (tA 6), .ref (tA 7), .ref (tA 8), .long bu, .int (nI (mx_n T))])), (tA 1, .inl (cI, 16, .inl po))] U.heap ∧ va_K (dC, dI) vwCl [(cI, .int), (cJ, .long), (cZ, .boolean)] U ∧ tkP tkS U)) "java/lang/IllegalStateException" := by
  refine MT.ofW (cc := cX3_builder) (maxL := 2) (ret := none) (by decide) rfl ?_
  intro p e s m args below meth c s₁ B hml hv
  obtain ⟨rfl, hP, hK, htk⟩ := hv
  have hx := B.exec
  have hb := B.bytes
  have hr := B.returns
  have hts := atoms_spec (ws := wsX3_builder) B.pre
  have hown : s.vm.findClass RX3 = some m.cls := findClass_of_methodNamed B.named
  have hlocks := B.notSynchronized
  have hE := B.noHandlers (hts _ List.mem_cons_self)
  have hP : va_P (dC, dI) vwCl [(o, .inr (3, [.ref (tA 0), .ref (fA 0), .ref (pA 0), .ref (rA 0)])), (tA 0, .inr (2, [.ref (tA 1), .ref (tA 2), .ref (tA 3), .ref (tA 4), .ref (tA 5), .ref (tA 6), .ref (tA 7), .ref (tA 8), .long bu, .int (nI (mx_n T))])), (tA 1, .inl (cI, 16, .inl po))] s.heap := hP
  have hl := lv_entry ([.ref o, .int (nI s0)]) (n := 2) (Nat.le_of_ble_eq_true rfl)
  rw [lg_entry_eq]
  generalize (lg_sl ([.ref o, .int (nI s0)]) ++ List.replicate (2 - (lg_sl ([.ref o, .int (nI s0)])).length) Slot.unset).toArray = ls at hl ⊢
  have hl : lv_has ls 2 [(0, .ref o), (1, .int (nI s0))] := hl
  refine lv_aload_n hx hb dX3_builder_0 rfl (lv_at hl 0 rfl) ?_
  refine lv_iload_n hx hb dX3_builder_1 rfl (lv_at hl 1 rfl) ?_
  have hPc := hP.sub (ws' := []) [] rfl
  refine vp_callSi (W.runV (As := [.int (nI s0)]) (rest := []) ⟨hx, hb, hml, hown, hts⟩ (c_isSign l dC dI cI cJ cZ o (nI s0)) (cwV 1 hts (w0_goodV woX3_builder wd_300 wd_297 wd_299 ws_8 wd_1) rfl rfl rfl (by decide +kernel) ⟨Nat.le_of_ble_eq_true rfl, Nat.le_of_ble_eq_true rfl⟩) ⟨fun a U g mk q => by obtain ⟨q0, qP, qK⟩ := q; exact ⟨q0, qP, va_K.moved (u := U) (U := U.calling g mk a) (Vm.Alike.refl U.vm) qK⟩, va_recv hK hP (ci := 3) (q0 := 0) rfl rfl, fun U hU hW => ⟨rfl, by rw [hU]; exact hPc, va_K.moved hW.alike hK⟩⟩ rfl rfl hl.1 rfl (lv_room (Nat.le_of_ble_eq_true rfl)) dX3_builder_2 ⟨Nat.zero_le _, Nat.zero_le _⟩) (fun r1 hr1 => ?_)
  refine lv_if_ne (tgt := 18) hx hb dX3_builder_5 (by decide) (fun c1 => ?_) (fun c1 => ?_)
  · refine lv_aload_n hx hb dX3_builder_18 rfl (lv_at hl 0 rfl) ?_
    refine va_get (D := (dC, dI)) (ci := 3) (v := .ref (tA 0)) (C := RX3) (T := TX3) (N := 4) hx hb hts (fun w h => woX3_builder w (inX3 w h)) hown hK hP 0 rfl rfl 0 (by decide) (hts _ (woX3_builder _ wd_142)) (fun _ h9 => h9) rfl dX3_builder_19 ?_
    refine va_get (D := (dC, dI)) (ci := 2) (v := .ref (tA 1)) (C := RX2) (T := TX2) (N := 10) hx hb hts (fun w h => woX3_builder w (inX2 w h)) hown hK hP 1 rfl rfl 0 (by decide) (hts _ (woX3_builder _ wd_30)) (fun _ h9 => h9) rfl dX3_builder_22 ?_
    refine lv_iload_n hx hb dX3_builder_25 rfl (lv_at hl 1 rfl) ?_
    refine va_iald hx hb hK hP 2 0 rfl rfl (vp_in_nI (by omega) (by omega)) dX3_builder_26 ?_
    rw [show (nI s0).toNatClampNeg = s0 from nI_clamp (by omega)]
    refine lv_iconst (v := (-1)) hx hb dX3_builder_27 (by decide) ?_
    refine lv_icmp_eq (tgt := 41) hx hb dX3_builder_28 (by decide) (fun c2 => ?_) (fun c2 => ?_)
    · exact absurd c2 hpo
    · obtain ⟨q9, hq9⟩ := htk.2.2 (52, "the sign has been used") (by simp [tkS])
      exact W.thr (names := ["java/lang/RuntimeException", "java/lang/Exception"]) hst hx hb hown (hts _ (woX3_builder _ wd_369)) (hts _ (woX3_builder _ wd_370)) (hts _ (woX3_builder _ wd_10)) hq9 (ow_IS (fun w h => hts w (woX3_builder w h)) (htk.1.args _) htk.2.1) (by decide) (by decide) hE (hl.1.trans hml.symm) dX3_builder_31 dX3_builder_34 dX3_builder_35 dX3_builder_37 dX3_builder_40 (Nat.le_of_ble_eq_true rfl) (Nat.le_of_ble_eq_true rfl) (Nat.le_of_ble_eq_true rfl) (Nat.le_of_ble_eq_true rfl) hlocks
  · exact absurd ⟨s0, hs0, rfl⟩ (zb_f hr1 c1)
