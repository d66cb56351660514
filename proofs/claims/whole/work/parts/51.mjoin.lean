set_option maxHeartbeats 4000000 in
set_option maxRecDepth 100000 in
theorem m_isTerm (l : Launch) (dC : Nat → ClassId) (dI : Nat → Nat → Nat) (cI cJ cZ : ClassId) (T : mx_T) (F : mx_F) (mA : Nat → Nat) (th : Int32) (jo : Int32) (a : Int32) (hn : mx_n T ≤ 60) : Met l yX4_isTerm wsX4_isTerm ({ frames := 0, cells := 0, slots := 0, locals := 0 }) (va_Pc [.ref (mA 0), .int a] (fun U => va_P (dC, dI) vwCl [(mA 0, .inr (4, [.int th, .ref (mA 1), .ref (mA 2), .ref (mA 3), .int (nI (mx_n T)), .int (nI (mx_m F)), .ref (mA 4), .ref (mA 5), .ref (mA 6), .ref (mA 7), .ref (mA 8), .ref (mA 9), .int jo, .ref (mA 10), .ref (mA 11)]))] U.heap ∧ va_K (dC, dI) vwCl [(cI, .int), (cJ, .long), (cZ, .boolean)] U)) (vp_Si (fun r => zb r (ix (mx_n T) a))) 0 0 (fun _ => False) := by
  refine Met.ofW (cc := cX4_isTerm) (maxL := 2) (ret := (some .boolean)) (by decide) rfl ?_
  intro p e s m args below meth c s₁ B hml hv
  obtain ⟨rfl, hP, hK⟩ := hv
  have hx := B.exec
  have hb := B.bytes
  have hr := B.returns
  have hts := atoms_spec (ws := wsX4_isTerm) B.pre
  have hown : s.vm.findClass RX4 = some m.cls := findClass_of_methodNamed B.named
  have hlocks := B.notSynchronized
  have hP : va_P (dC, dI) vwCl [(mA 0, .inr (4, [.int th, .ref (mA 1), .ref (mA 2), .ref (mA 3), .int (nI (mx_n T)), .int (nI (mx_m F)), .ref (mA 4), .ref (mA 5), .ref (mA 6), .ref (mA 7), .ref (mA 8), .ref (mA 9), .int jo, .ref (mA 10), .ref (mA 11)]))] s.heap := hP
  have hl := lv_entry ([.ref (mA 0), .int a]) (n := 2) (Nat.le_of_ble_eq_true rfl)
  rw [lg_entry_eq]
  generalize (lg_sl ([.ref (mA 0), .int a]) ++ List.replicate (2 - (lg_sl ([.ref (mA 0), .int a])).length) Slot.unset).toArray = ls at hl ⊢
  have hl : lv_has ls 2 [(0, .ref (mA 0)), (1, .int a)] := hl
  refine lv_iload_n hx hb dX4_isTerm_0 rfl (lv_at hl 1 rfl) ?_
  refine lv_if_lt (tgt := 16) hx hb dX4_isTerm_1 (by decide) (fun c1 => ?_) (fun c1 => ?_)
  · refine lv_iconst (v := 0) hx hb dX4_isTerm_16 (by decide) ?_
    exact W.zret (v := 0) hx hb hr rfl (fun t9 ht9 _ => ⟨_, rfl, Or.inr ⟨rfl, ix_lo (by omega) c1⟩, ht9⟩) (fun q h => by cases h) dX4_isTerm_17
  · refine lv_iload_n hx hb dX4_isTerm_4 rfl (lv_at hl 1 rfl) ?_
    refine lv_aload_n hx hb dX4_isTerm_5 rfl (lv_at hl 0 rfl) ?_
    refine va_get (D := (dC, dI)) (ci := 4) (v := .int (nI (mx_n T))) (C := RX4) (T := TX4) (N := 15) hx hb hts (fun w h => woX4_isTerm w (inX4 w h)) hown hK hP 0 rfl rfl 4 (by decide) (hts _ (woX4_isTerm _ wd_497)) (fun _ h9 => h9) rfl dX4_isTerm_6 ?_
    refine lv_icmp_ge (tgt := 16) hx hb dX4_isTerm_9 (by decide) (fun c2 => ?_) (fun c2 => ?_)
    · refine lv_iconst (v := 0) hx hb dX4_isTerm_16 (by decide) ?_
      exact W.zret (v := 0) hx hb hr rfl (fun t9 ht9 _ => ⟨_, rfl, Or.inr ⟨rfl, ix_hi (by omega) rfl c2⟩, ht9⟩) (fun q h => by cases h) dX4_isTerm_17
    · refine lv_iconst (v := 1) hx hb dX4_isTerm_12 (by decide) ?_
      refine lv_goto (tgt := 17) hx hb dX4_isTerm_13 (by decide) ?_
      exact W.zret (v := 1) hx hb hr rfl (fun t9 ht9 _ => ⟨_, rfl, Or.inl ⟨rfl, ix_in (by omega) rfl c1 c2⟩, ht9⟩) (fun q h => by cases h) dX4_isTerm_17

set_option maxHeartbeats 4000000 in
set_option maxRecDepth 100000 in
theorem m_thrown (l : Launch) (dC : Nat → ClassId) (dI : Nat → Nat → Nat) (cI cJ cZ : ClassId) (T : mx_T) (F : mx_F) (mA : Nat → Nat) (th : Int32) (jo : Int32) : Met l yX4_thrown wsX4_thrown ({ frames := 0, cells := 0, slots := 0, locals := 0 }) (va_Pc [.ref (mA 0)] (fun U => va_P (dC, dI) vwCl [(mA 0, .inr (4, [.int th, .ref (mA 1), .ref (mA 2), .ref (mA 3), .int (nI (mx_n T)), .int (nI (mx_m F)), .ref (mA 4), .ref (mA 5), .ref (mA 6), .ref (mA 7), .ref (mA 8), .ref (mA 9), .int jo, .ref (mA 10), .ref (mA 11)]))] U.heap ∧ va_K (dC, dI) vwCl [(cI, .int), (cJ, .long), (cZ, .boolean)] U)) (vp_Si (fun r => r = th)) 0 0 (fun _ => False) := by
  refine Met.ofW (cc := cX4_thrown) (maxL := 1) (ret := (some .int)) (by decide) rfl ?_
  intro p e s m args below meth c s₁ B hml hv
  obtain ⟨rfl, hP, hK⟩ := hv
  have hx := B.exec
  have hb := B.bytes
  have hr := B.returns
  have hts := atoms_spec (ws := wsX4_thrown) B.pre
  have hown : s.vm.findClass RX4 = some m.cls := findClass_of_methodNamed B.named
  have hlocks := B.notSynchronized
  have hP : va_P (dC, dI) vwCl [(mA 0, .inr (4, [.int th, .ref (mA 1), .ref (mA 2), .ref (mA 3), .int (nI (mx_n T)), .int (nI (mx_m F)), .ref (mA 4), .ref (mA 5), .ref (mA 6), .ref (mA 7), .ref (mA 8), .ref (mA 9), .int jo, .ref (mA 10), .ref (mA 11)]))] s.heap := hP
  have hl := lv_entry ([.ref (mA 0)]) (n := 1) (Nat.le_of_ble_eq_true rfl)
  rw [lg_entry_eq]
  generalize (lg_sl ([.ref (mA 0)]) ++ List.replicate (1 - (lg_sl ([.ref (mA 0)])).length) Slot.unset).toArray = ls at hl ⊢
  have hl : lv_has ls 1 [(0, .ref (mA 0))] := hl
  refine lv_aload_n hx hb dX4_thrown_0 rfl (lv_at hl 0 rfl) ?_
  refine va_get (D := (dC, dI)) (ci := 4) (v := .int th) (C := RX4) (T := TX4) (N := 15) hx hb hts (fun w h => woX4_thrown w (inX4 w h)) hown hK hP 0 rfl rfl 0 (by decide) (hts _ (woX4_thrown _ wd_493)) (fun _ h9 => h9) rfl dX4_thrown_1 ?_
  exact W.iret (v := th) hx hb hr (fun t9 ht9 _ => ⟨_, rfl, rfl, ht9⟩) (fun q h => by cases h) dX4_thrown_4

set_option maxHeartbeats 4000000 in
set_option maxRecDepth 100000 in
theorem m_all (l : Launch) (dC : Nat → ClassId) (dI : Nat → Nat → Nat) (cI cJ cZ : ClassId) (T : mx_T) (F : mx_F) (mA : Nat → Nat) (th : Int32) (jo : Int32) (hm : mx_m F ≤ 40) : Met l yX4_all wsX4_all ({ frames := 0, cells := 0, slots := 0, locals := 0 }) (va_Pc [.ref (mA 0)] (fun U => va_P (dC, dI) vwCl [(mA 0, .inr (4, [.int th, .ref (mA 1), .ref (mA 2), .ref (mA 3), .int (nI (mx_n T)), .int (nI (mx_m F)), .ref (mA 4), .ref (mA 5), .ref (mA 6), .ref (mA 7), .ref (mA 8), .ref (mA 9), .int jo, .ref (mA 10), .ref (mA 11)]))] U.heap ∧ va_K (dC, dI) vwCl [(cI, .int), (cJ, .long), (cZ, .boolean)] U)) (vp_Sl (fun r => ∀ i, jb r i = decide (i < mx_m F))) 0 0 (fun _ => False) := by
  refine Met.ofW (cc := cX4_all) (maxL := 1) (ret := (some .long)) (by decide) rfl ?_
  intro p e s m args below meth c s₁ B hml hv
  obtain ⟨rfl, hP, hK⟩ := hv
  have hx := B.exec
  have hb := B.bytes
  have hr := B.returns
  have hts := atoms_spec (ws := wsX4_all) B.pre
  have hown : s.vm.findClass RX4 = some m.cls := findClass_of_methodNamed B.named
  have hlocks := B.notSynchronized
  have hP : va_P (dC, dI) vwCl [(mA 0, .inr (4, [.int th, .ref (mA 1), .ref (mA 2), .ref (mA 3), .int (nI (mx_n T)), .int (nI (mx_m F)), .ref (mA 4), .ref (mA 5), .ref (mA 6), .ref (mA 7), .ref (mA 8), .ref (mA 9), .int jo, .ref (mA 10), .ref (mA 11)]))] s.heap := hP
  have hl := lv_entry ([.ref (mA 0)]) (n := 1) (Nat.le_of_ble_eq_true rfl)
  rw [lg_entry_eq]
  generalize (lg_sl ([.ref (mA 0)]) ++ List.replicate (1 - (lg_sl ([.ref (mA 0)])).length) Slot.unset).toArray = ls at hl ⊢
  have hl : lv_has ls 1 [(0, .ref (mA 0))] := hl
  refine lv_lconst (v := 1) hx hb dX4_all_0 (by decide) ?_
  refine lv_aload_n hx hb dX4_all_1 rfl (lv_at hl 0 rfl) ?_
  refine va_get (D := (dC, dI)) (ci := 4) (v := .int (nI (mx_m F))) (C := RX4) (T := TX4) (N := 15) hx hb hts (fun w h => woX4_all w (inX4 w h)) hown hK hP 0 rfl rfl 5 (by decide) (hts _ (woX4_all _ wd_498)) (fun _ h9 => h9) rfl dX4_all_2 ?_
  refine lv_lshl (v := (1 : Int64) <<< ((nI (mx_m F)).toInt64 &&& 63)) hx hb dX4_all_5 rfl ?_
  refine lv_lconst (v := 1) hx hb dX4_all_6 (by decide) ?_
  refine lv_lsub hx hb dX4_all_7 ?_
  exact W.lret (v := ((1 : Int64) <<< ((nI (mx_m F)).toInt64 &&& 63)) - 1) hx hb hr (fun t9 ht9 _ => ⟨_, rfl, fun i => jb_mask (by omega) i, ht9⟩) (fun q h => by cases h) dX4_all_8

set_option maxHeartbeats 4000000 in
set_option maxRecDepth 100000 in
theorem mj_loop {p : Program} {l : Launch} {e : Env} {s : State} {m : MethodId} {args : Array Value} {below : List Frame} {meth : Method} {c : Code} {Q : State → Prop} (hx : p.tables.exec = Jvm.exec) (hb : c.code = cX4_join) (hown : s.vm.findClass RX4 = some m.cls) (hts : ∀ w ∈ wsX4_join, w.before args s = true) {dC : Nat → ClassId} {dI : Nat → Nat → Nat} {cI cJ cZ : ClassId} (hK : va_K (dC, dI) vwCl [(cI, .int), (cJ, .long), (cZ, .boolean)] s) {T : mx_T} {F : mx_F} {mA : Nat → Nat} {th : Int32} {jo : Int32} {le : Nat → Int32} {x : Int32} {y : Int32} {lo : Nat} (hn : mx_n T ≤ 60) {A : Nat → Prop} {H0 : Heap} (hA : ∀ q : Nat, H0.size ≤ q → A q) (hml : c.maxLocals = 7) (kk : ∀ (H : Heap) (locs : List Loc) (ls : Array Slot), va_P (dC, dI) vwCl [(mA 0, .inr (4, [.int th, .ref (mA 1), .ref (mA 2), .ref (mA 3), .int (nI (mx_n T)), .int (nI (mx_m F)), .ref (mA 4), .ref (mA 5), .ref (mA 6), .ref (mA 7), .ref (mA 8), .ref (mA 9), .int jo, .ref (mA 10), .ref (mA 11)])), (mA 9, .inl (cI, 60, .inl (fun t => if t < mx_n T ∧ (le t = x ∨ le t = y) then nI lo else le t)))] H → va_D A [(mA 0, .inr (4, [.int th, .ref (mA 1), .ref (mA 2), .ref (mA 3), .int (nI (mx_n T)), .int (nI (mx_m F)), .ref (mA 4), .ref (mA 5), .ref (mA 6), .ref (mA 7), .ref (mA 8), .ref (mA 9), .int jo, .ref (mA 10), .ref (mA 11)])), (mA 9, .inl (cI, 60, .inl (fun t => if t < mx_n T ∧ (le t = x ∨ le t = y) then nI lo else le t)))] → va_S A H0 H locs → lv_has ls 7 [(0, .ref (mA 0))] → W p l e ({ frames := 0, cells := 0, slots := 0, locals := 0 }) s m args below meth c H locs 0 0 Q (F0 m 86 ls [])) : ∀ (k i : Nat) (f : Nat → Int32) (H : Heap) (locs : List Loc) (ls : Array Slot), i + k = mx_n T → (∀ t, f t = if t < i ∧ (le t = x ∨ le t = y) then nI lo else le t) → va_P (dC, dI) vwCl [(mA 0, .inr (4, [.int th, .ref (mA 1), .ref (mA 2), .ref (mA 3), .int (nI (mx_n T)), .int (nI (mx_m F)), .ref (mA 4), .ref (mA 5), .ref (mA 6), .ref (mA 7), .ref (mA 8), .ref (mA 9), .int jo, .ref (mA 10), .ref (mA 11)])), (mA 9, .inl (cI, 60, .inl f))] H → va_D A [(mA 0, .inr (4, [.int th, .ref (mA 1), .ref (mA 2), .ref (mA 3), .int (nI (mx_n T)), .int (nI (mx_m F)), .ref (mA 4), .ref (mA 5), .ref (mA 6), .ref (mA 7), .ref (mA 8), .ref (mA 9), .int jo, .ref (mA 10), .ref (mA 11)])), (mA 9, .inl (cI, 60, .inl f))] → va_S A H0 H locs → lv_has ls 7 [(0, .ref (mA 0)), (3, .int x), (4, .int y), (5, .int (nI lo)), (6, .int (nI i))] → W p l e ({ frames := 0, cells := 0, slots := 0, locals := 0 }) s m args below meth c H locs 0 0 Q (F0 m 39 ls []) := by
  intro k
  induction k with
  | zero =>
    intro i f H locs ls hk hf hP hD hS hl
    refine lv_iload hx hb dX4_join_39 (lv_at hl 4 rfl) ?_
    refine lv_aload_n hx hb dX4_join_41 rfl (lv_at hl 0 rfl) ?_
    refine va_get (D := (dC, dI)) (ci := 4) (v := .int (nI (mx_n T))) (C := RX4) (T := TX4) (N := 15) hx hb hts (fun w h => woX4_join w (inX4 w h)) hown hK hP 0 rfl rfl 4 (by decide) (hts _ (woX4_join _ wd_497)) (fun _ h9 => h9) rfl dX4_join_42 ?_
    refine lv_icmp_ge (tgt := 86) hx hb dX4_join_45 (by decide) (fun c1 => ?_) (fun c1 => ?_)
    · have e : f = (fun t => if t < mx_n T ∧ (le t = x ∨ le t = y) then nI lo else le t) := by funext t; rw [hf t, show i = mx_n T by omega]
      rw [e] at hP hD
      exact kk _ _ _ hP hD hS (lv_sub hl [0] rfl)
    · exact absurd (nI_le (by omega) (by omega)) c1
  | succ k ih =>
    intro i f H locs ls hk hf hP hD hS hl
    have hi : i < mx_n T := by omega
    have hfi : f i = le i := by rw [hf i, if_neg (fun q => absurd q.1 (Nat.lt_irrefl i))]
    refine lv_iload hx hb dX4_join_39 (lv_at hl 4 rfl) ?_
    refine lv_aload_n hx hb dX4_join_41 rfl (lv_at hl 0 rfl) ?_
    refine va_get (D := (dC, dI)) (ci := 4) (v := .int (nI (mx_n T))) (C := RX4) (T := TX4) (N := 15) hx hb hts (fun w h => woX4_join w (inX4 w h)) hown hK hP 0 rfl rfl 4 (by decide) (hts _ (woX4_join _ wd_497)) (fun _ h9 => h9) rfl dX4_join_42 ?_
    refine lv_icmp_ge (tgt := 86) hx hb dX4_join_45 (by decide) (fun c1 => ?_) (fun c1 => ?_)
    · exact absurd c1 (nI_ge hi (by omega))
    · refine lv_aload_n hx hb dX4_join_48 rfl (lv_at hl 0 rfl) ?_
      refine va_get (D := (dC, dI)) (ci := 4) (v := .ref (mA 9)) (C := RX4) (T := TX4) (N := 15) hx hb hts (fun w h => woX4_join w (inX4 w h)) hown hK hP 0 rfl rfl 11 (by decide) (hts _ (woX4_join _ wd_504)) (fun _ h9 => h9) rfl dX4_join_49 ?_
      refine lv_iload hx hb dX4_join_52 (lv_at hl 4 rfl) ?_
      refine va_iald hx hb hK hP 1 0 rfl rfl (vp_in_nI (by omega) (by omega)) dX4_join_54 ?_
      rw [show (nI i).toNatClampNeg = i from nI_clamp (by omega)]
      refine lv_iload_n hx hb dX4_join_55 rfl (lv_at hl 1 rfl) ?_
      refine lv_icmp_eq (tgt := 71) hx hb dX4_join_56 (by decide) (fun c2 => ?_) (fun c2 => ?_)
      · refine lv_aload_n hx hb dX4_join_71 rfl (lv_at hl 0 rfl) ?_
        refine va_get (D := (dC, dI)) (ci := 4) (v := .ref (mA 9)) (C := RX4) (T := TX4) (N := 15) hx hb hts (fun w h => woX4_join w (inX4 w h)) hown hK hP 0 rfl rfl 11 (by decide) (hts _ (woX4_join _ wd_504)) (fun _ h9 => h9) rfl dX4_join_72 ?_
        refine lv_iload hx hb dX4_join_75 (lv_at hl 4 rfl) ?_
        refine lv_iload hx hb dX4_join_77 (lv_at hl 3 rfl) ?_
        refine va_iast hx hb hK hP hD hS 1 0 rfl rfl (vp_in_nI (by omega) (by omega)) dX4_join_79 (fun H locs hP hD hS => ?_)
        rw [show (nI i).toNatClampNeg = i from nI_clamp (by omega)] at hP hD
        have hP : va_P (dC, dI) vwCl [(mA 0, .inr (4, [.int th, .ref (mA 1), .ref (mA 2), .ref (mA 3), .int (nI (mx_n T)), .int (nI (mx_m F)), .ref (mA 4), .ref (mA 5), .ref (mA 6), .ref (mA 7), .ref (mA 8), .ref (mA 9), .int jo, .ref (mA 10), .ref (mA 11)])), (mA 9, .inl (cI, 60, .inl (upd f i (nI lo))))] H := hP
        have hD : va_D A [(mA 0, .inr (4, [.int th, .ref (mA 1), .ref (mA 2), .ref (mA 3), .int (nI (mx_n T)), .int (nI (mx_m F)), .ref (mA 4), .ref (mA 5), .ref (mA 6), .ref (mA 7), .ref (mA 8), .ref (mA 9), .int jo, .ref (mA 10), .ref (mA 11)])), (mA 9, .inl (cI, 60, .inl (upd f i (nI lo))))] := hD
        obtain ⟨y_1, ey_1⟩ : ∃ y : Int32, y = (nI i) + 1 := ⟨_, rfl⟩
        refine lv_iinc (v := y_1) (lv' := [(6, .int y_1), (0, .ref (mA 0)), (3, .int x), (4, .int y), (5, .int (nI lo))]) hx hb dX4_join_80 hl (k := 4) rfl (by rw [ey_1]; rfl) (by decide) rfl (fun ls hl => ?_)
        refine lv_goto (tgt := 39) hx hb dX4_join_83 (by decide) ?_
        rw [ey_1, nI_1] at hl
        refine ih (i + 1) (upd f i (nI lo)) _ _ _ (by omega) (fun t => ?_) hP hD hS (lv_sub hl [1, 2, 3, 4, 0] rfl)
        by_cases z : t = i
        · subst z; rw [pk_us, if_pos ⟨by omega, Or.inl (hfi.symm.trans c2)⟩]
        · rw [pk_un z, hf t]; by_cases q : t < i
          · simp [q, show t < i + 1 by omega]
          · simp [q, show ¬ t < i + 1 by omega]
      · refine lv_aload_n hx hb dX4_join_59 rfl (lv_at hl 0 rfl) ?_
        refine va_get (D := (dC, dI)) (ci := 4) (v := .ref (mA 9)) (C := RX4) (T := TX4) (N := 15) hx hb hts (fun w h => woX4_join w (inX4 w h)) hown hK hP 0 rfl rfl 11 (by decide) (hts _ (woX4_join _ wd_504)) (fun _ h9 => h9) rfl dX4_join_60 ?_
        refine lv_iload hx hb dX4_join_63 (lv_at hl 4 rfl) ?_
        refine va_iald hx hb hK hP 1 0 rfl rfl (vp_in_nI (by omega) (by omega)) dX4_join_65 ?_
        rw [show (nI i).toNatClampNeg = i from nI_clamp (by omega)]
        refine lv_iload hx hb dX4_join_66 (lv_at hl 2 rfl) ?_
        refine lv_icmp_ne (tgt := 80) hx hb dX4_join_68 (by decide) (fun c3 => ?_) (fun c3 => ?_)
        · obtain ⟨y_2, ey_2⟩ : ∃ y : Int32, y = (nI i) + 1 := ⟨_, rfl⟩
          refine lv_iinc (v := y_2) (lv' := [(6, .int y_2), (0, .ref (mA 0)), (3, .int x), (4, .int y), (5, .int (nI lo))]) hx hb dX4_join_80 hl (k := 4) rfl (by rw [ey_2]; rfl) (by decide) rfl (fun ls hl => ?_)
          refine lv_goto (tgt := 39) hx hb dX4_join_83 (by decide) ?_
          rw [ey_2, nI_1] at hl
          refine ih (i + 1) f _ _ _ (by omega) (fun t => ?_) hP hD hS (lv_sub hl [1, 2, 3, 4, 0] rfl)
          rw [hf t]; by_cases z : t = i
          · subst z; rw [if_neg (fun q => absurd q.1 (Nat.lt_irrefl t)), if_neg (fun q => q.2.elim (fun e => c2 (hfi.trans e)) (fun e => c3 (hfi.trans e)))]
          · by_cases q : t < i
            · simp [q, show t < i + 1 by omega]
            · simp [q, show ¬ t < i + 1 by omega]
        · refine lv_aload_n hx hb dX4_join_71 rfl (lv_at hl 0 rfl) ?_
          refine va_get (D := (dC, dI)) (ci := 4) (v := .ref (mA 9)) (C := RX4) (T := TX4) (N := 15) hx hb hts (fun w h => woX4_join w (inX4 w h)) hown hK hP 0 rfl rfl 11 (by decide) (hts _ (woX4_join _ wd_504)) (fun _ h9 => h9) rfl dX4_join_72 ?_
          refine lv_iload hx hb dX4_join_75 (lv_at hl 4 rfl) ?_
          refine lv_iload hx hb dX4_join_77 (lv_at hl 3 rfl) ?_
          refine va_iast hx hb hK hP hD hS 1 0 rfl rfl (vp_in_nI (by omega) (by omega)) dX4_join_79 (fun H locs hP hD hS => ?_)
          rw [show (nI i).toNatClampNeg = i from nI_clamp (by omega)] at hP hD
          have hP : va_P (dC, dI) vwCl [(mA 0, .inr (4, [.int th, .ref (mA 1), .ref (mA 2), .ref (mA 3), .int (nI (mx_n T)), .int (nI (mx_m F)), .ref (mA 4), .ref (mA 5), .ref (mA 6), .ref (mA 7), .ref (mA 8), .ref (mA 9), .int jo, .ref (mA 10), .ref (mA 11)])), (mA 9, .inl (cI, 60, .inl (upd f i (nI lo))))] H := hP
          have hD : va_D A [(mA 0, .inr (4, [.int th, .ref (mA 1), .ref (mA 2), .ref (mA 3), .int (nI (mx_n T)), .int (nI (mx_m F)), .ref (mA 4), .ref (mA 5), .ref (mA 6), .ref (mA 7), .ref (mA 8), .ref (mA 9), .int jo, .ref (mA 10), .ref (mA 11)])), (mA 9, .inl (cI, 60, .inl (upd f i (nI lo))))] := hD
          obtain ⟨y_3, ey_3⟩ : ∃ y : Int32, y = (nI i) + 1 := ⟨_, rfl⟩
          refine lv_iinc (v := y_3) (lv' := [(6, .int y_3), (0, .ref (mA 0)), (3, .int x), (4, .int y), (5, .int (nI lo))]) hx hb dX4_join_80 hl (k := 4) rfl (by rw [ey_3]; rfl) (by decide) rfl (fun ls hl => ?_)
          refine lv_goto (tgt := 39) hx hb dX4_join_83 (by decide) ?_
          rw [ey_3, nI_1] at hl
          refine ih (i + 1) (upd f i (nI lo)) _ _ _ (by omega) (fun t => ?_) hP hD hS (lv_sub hl [1, 2, 3, 4, 0] rfl)
          by_cases z : t = i
          · subst z; rw [pk_us, if_pos ⟨by omega, Or.inr (hfi.symm.trans c3)⟩]
          · rw [pk_un z, hf t]; by_cases q : t < i
            · simp [q, show t < i + 1 by omega]
            · simp [q, show ¬ t < i + 1 by omega]

set_option maxHeartbeats 4000000 in
set_option maxRecDepth 100000 in
/-- the reference joins two rows -/
theorem m_join (l : Launch) (dC : Nat → ClassId) (dI : Nat → Nat → Nat) (cI cJ cZ : ClassId) (T : mx_T) (F : mx_F) (nn : Nat → Nat) (mA : Nat → Nat) (th : Int32) (jo : Int32) (le : Nat → Int32) (a : Nat) (b : Nat) (sz : Nat) (hn : mx_n T ≤ 60) (h : md_L T nn le) (ha : a < mx_n T) (hb0 : b < mx_n T) : Met l yX4_join wsX4_join ({ frames := 0, cells := 0, slots := 0, locals := 0 }) (va_Pc [.ref (mA 0), .int (nI a), .int (nI b)] (fun U => U.heap.size = sz ∧ va_P (dC, dI) vwCl [(mA 0, .inr (4, [.int th, .ref (mA 1), .ref (mA 2), .ref (mA 3), .int (nI (mx_n T)), .int (nI (mx_m F)), .ref (mA 4), .ref (mA 5), .ref (mA 6), .ref (mA 7), .ref (mA 8), .ref (mA 9), .int jo, .ref (mA 10), .ref (mA 11)])), (mA 9, .inl (cI, 60, .inl le))] U.heap ∧ va_K (dC, dI) vwCl [(cI, .int), (cJ, .long), (cZ, .boolean)] U ∧ va_D (fun _ => True) [(mA 0, .inr (4, [.int th, .ref (mA 1), .ref (mA 2), .ref (mA 3), .int (nI (mx_n T)), .int (nI (mx_m F)), .ref (mA 4), .ref (mA 5), .ref (mA 6), .ref (mA 7), .ref (mA 8), .ref (mA 9), .int jo, .ref (mA 10), .ref (mA 11)])), (mA 9, .inl (cI, 60, .inl le))])) (va_Qv (mj_Q T nn a b jo) (fun (u : (Nat → Int32) × Int32) t7 => match u with | (le2, jo2) => va_P (dC, dI) vwCl [(mA 0, .inr (4, [.int th, .ref (mA 1), .ref (mA 2), .ref (mA 3), .int (nI (mx_n T)), .int (nI (mx_m F)), .ref (mA 4), .ref (mA 5), .ref (mA 6), .ref (mA 7), .ref (mA 8), .ref (mA 9), .int jo2, .ref (mA 10), .ref (mA 11)])), (mA 9, .inl (cI, 60, .inl le2))] t7.heap ∧ va_K (dC, dI) vwCl [(cI, .int), (cJ, .long), (cZ, .boolean)] t7 ∧ va_D (va_A [(mA 0, .inr (4, [.int th, .ref (mA 1), .ref (mA 2), .ref (mA 3), .int (nI (mx_n T)), .int (nI (mx_m F)), .ref (mA 4), .ref (mA 5), .ref (mA 6), .ref (mA 7), .ref (mA 8), .ref (mA 9), .int jo, .ref (mA 10), .ref (mA 11)])), (mA 9, .inl (cI, 60, .inl le))] sz) [(mA 0, .inr (4, [.int th, .ref (mA 1), .ref (mA 2), .ref (mA 3), .int (nI (mx_n T)), .int (nI (mx_m F)), .ref (mA 4), .ref (mA 5), .ref (mA 6), .ref (mA 7), .ref (mA 8), .ref (mA 9), .int jo2, .ref (mA 10), .ref (mA 11)])), (mA 9, .inl (cI, 60, .inl le2))]) (va_A [(mA 0, .inr (4, [.int th, .ref (mA 1), .ref (mA 2), .ref (mA 3), .int (nI (mx_n T)), .int (nI (mx_m F)), .ref (mA 4), .ref (mA 5), .ref (mA 6), .ref (mA 7), .ref (mA 8), .ref (mA 9), .int jo, .ref (mA 10), .ref (mA 11)])), (mA 9, .inl (cI, 60, .inl le))] sz)) 0 0 (va_A [(mA 0, .inr (4, [.int th, .ref (mA 1), .ref (mA 2), .ref (mA 3), .int (nI (mx_n T)), .int (nI (mx_m F)), .ref (mA 4), .ref (mA 5), .ref (mA 6), .ref (mA 7), .ref (mA 8), .ref (mA 9), .int jo, .ref (mA 10), .ref (mA 11)])), (mA 9, .inl (cI, 60, .inl le))] sz) := by
  refine Met.ofW (cc := cX4_join) (maxL := 7) (ret := none) (by decide) rfl ?_
  intro p e s m args below meth c s₁ B hml hv
  obtain ⟨rfl, hsz, hP, hK, hD0⟩ := hv
  have hx := B.exec
  have hb := B.bytes
  have hr := B.returns
  have hts := atoms_spec (ws := wsX4_join) B.pre
  have hown : s.vm.findClass RX4 = some m.cls := findClass_of_methodNamed B.named
  have hlocks := B.notSynchronized
  subst hsz
  have hD := hD0.self (sz := s.heap.size)
  generalize hAe : va_A [(mA 0, .inr (4, [.int th, .ref (mA 1), .ref (mA 2), .ref (mA 3), .int (nI (mx_n T)), .int (nI (mx_m F)), .ref (mA 4), .ref (mA 5), .ref (mA 6), .ref (mA 7), .ref (mA 8), .ref (mA 9), .int jo, .ref (mA 10), .ref (mA 11)])), (mA 9, .inl (cI, 60, .inl le))] s.heap.size = A at hD ⊢
  have hA : ∀ q : Nat, s.heap.size ≤ q → A q := fun q h => by rw [← hAe]; exact Or.inr h
  have hS : va_S A s.heap s.heap [] := va_S.rf
  have hP : va_P (dC, dI) vwCl [(mA 0, .inr (4, [.int th, .ref (mA 1), .ref (mA 2), .ref (mA 3), .int (nI (mx_n T)), .int (nI (mx_m F)), .ref (mA 4), .ref (mA 5), .ref (mA 6), .ref (mA 7), .ref (mA 8), .ref (mA 9), .int jo, .ref (mA 10), .ref (mA 11)])), (mA 9, .inl (cI, 60, .inl le))] s.heap := hP
  have hl := lv_entry ([.ref (mA 0), .int (nI a), .int (nI b)]) (n := 7) (Nat.le_of_ble_eq_true rfl)
  rw [lg_entry_eq]
  generalize (lg_sl ([.ref (mA 0), .int (nI a), .int (nI b)]) ++ List.replicate (7 - (lg_sl ([.ref (mA 0), .int (nI a), .int (nI b)])).length) Slot.unset).toArray = ls at hl ⊢
  have hl : lv_has ls 7 [(0, .ref (mA 0)), (1, .int (nI a)), (2, .int (nI b))] := hl
  have h60a : a < 60 := by omega
  have h60b : b < 60 := by omega
  have hla := h.2 a ha
  have hlb := h.2 b hb0
  have ea := h.1 a ha
  have eb := h.1 b hb0
  refine lv_aload_n hx hb dX4_join_0 rfl (lv_at hl 0 rfl) ?_
  refine va_get (D := (dC, dI)) (ci := 4) (v := .ref (mA 9)) (C := RX4) (T := TX4) (N := 15) hx hb hts (fun w h => woX4_join w (inX4 w h)) hown hK hP 0 rfl rfl 11 (by decide) (hts _ (woX4_join _ wd_504)) (fun _ h9 => h9) rfl dX4_join_1 ?_
  refine lv_iload_n hx hb dX4_join_4 rfl (lv_at hl 1 rfl) ?_
  refine va_iald hx hb hK hP 1 0 rfl rfl (vp_in_nI (by omega) (by omega)) dX4_join_5 ?_
  rw [show (nI a).toNatClampNeg = a from nI_clamp (by omega)]
  rw [ea]
  refine lv_istore_n (lv' := [(3, .int (nI (nn a))), (0, .ref (mA 0)), (1, .int (nI a)), (2, .int (nI b))]) hx hb dX4_join_6 rfl hl (by decide) rfl (fun ls hl => ?_)
  refine lv_aload_n hx hb dX4_join_7 rfl (lv_at hl 1 rfl) ?_
  refine va_get (D := (dC, dI)) (ci := 4) (v := .ref (mA 9)) (C := RX4) (T := TX4) (N := 15) hx hb hts (fun w h => woX4_join w (inX4 w h)) hown hK hP 0 rfl rfl 11 (by decide) (hts _ (woX4_join _ wd_504)) (fun _ h9 => h9) rfl dX4_join_8 ?_
  refine lv_iload_n hx hb dX4_join_11 rfl (lv_at hl 3 rfl) ?_
  refine va_iald hx hb hK hP 1 0 rfl rfl (vp_in_nI (by omega) (by omega)) dX4_join_12 ?_
  rw [show (nI b).toNatClampNeg = b from nI_clamp (by omega)]
  rw [eb]
  refine lv_istore (lv' := [(4, .int (nI (nn b))), (3, .int (nI (nn a))), (0, .ref (mA 0)), (1, .int (nI a)), (2, .int (nI b))]) hx hb dX4_join_13 hl (by decide) rfl (fun ls hl => ?_)
  refine lv_iload_n hx hb dX4_join_15 rfl (lv_at hl 1 rfl) ?_
  refine lv_iload hx hb dX4_join_16 (lv_at hl 0 rfl) ?_
  refine lv_icmp_ne (tgt := 22) hx hb dX4_join_18 (by decide) (fun c1 => ?_) (fun c1 => ?_)
  · have hne : nn a ≠ nn b := fun q => c1 (by rw [q])
    refine lv_iload_n hx hb dX4_join_22 rfl (lv_at hl 1 rfl) ?_
    refine lv_iload hx hb dX4_join_23 (lv_at hl 0 rfl) ?_
    refine lv_icmp_ge (tgt := 32) hx hb dX4_join_25 (by decide) (fun c2 => ?_) (fun c2 => ?_)
    · have hlt : nn b < nn a := by have := (nI_leI (a := nn b) (b := nn a) (by omega) (by omega)).mp c2; omega
      refine lv_iload hx hb dX4_join_32 (lv_at hl 0 rfl) ?_
      refine lv_istore (lv' := [(5, .int (nI (nn b))), (4, .int (nI (nn b))), (3, .int (nI (nn a))), (0, .ref (mA 0)), (1, .int (nI a)), (2, .int (nI b))]) hx hb dX4_join_34 hl (by decide) rfl (fun ls hl => ?_)
      refine lv_iconst (v := 0) hx hb dX4_join_36 (by decide) ?_
      refine lv_istore (lv' := [(6, .int 0), (5, .int (nI (nn b))), (4, .int (nI (nn b))), (3, .int (nI (nn a))), (0, .ref (mA 0)), (1, .int (nI a)), (2, .int (nI b))]) hx hb dX4_join_37 hl (by decide) rfl (fun ls hl => ?_)
      refine mj_loop hx hb hown hts hK hn hA hml (fun H locs ls hP hD hS hl => ?_) (mx_n T) 0 le _ _ _ (by omega) (fun t => (if_neg (fun q => absurd q.1 (Nat.not_lt_zero t))).symm) hP hD hS (lv_sub hl [4, 3, 2, 1, 0] rfl)
      have hP : va_P (dC, dI) vwCl [(mA 0, .inr (4, [.int th, .ref (mA 1), .ref (mA 2), .ref (mA 3), .int (nI (mx_n T)), .int (nI (mx_m F)), .ref (mA 4), .ref (mA 5), .ref (mA 6), .ref (mA 7), .ref (mA 8), .ref (mA 9), .int jo, .ref (mA 10), .ref (mA 11)])), (mA 9, .inl (cI, 60, .inl (fun t => if t < mx_n T ∧ (le t = (nI (nn a)) ∨ le t = (nI (nn b))) then nI (nn b) else le t)))] H := hP
      have hD : va_D A [(mA 0, .inr (4, [.int th, .ref (mA 1), .ref (mA 2), .ref (mA 3), .int (nI (mx_n T)), .int (nI (mx_m F)), .ref (mA 4), .ref (mA 5), .ref (mA 6), .ref (mA 7), .ref (mA 8), .ref (mA 9), .int jo, .ref (mA 10), .ref (mA 11)])), (mA 9, .inl (cI, 60, .inl (fun t => if t < mx_n T ∧ (le t = (nI (nn a)) ∨ le t = (nI (nn b))) then nI (nn b) else le t)))] := hD
      refine lv_aload_n hx hb dX4_join_86 rfl (lv_at hl 0 rfl) ?_
      refine lv_iconst (v := 1) hx hb dX4_join_87 (by decide) ?_
      refine va_put (D := (dC, dI)) (ci := 4) (v := .int 1) (ty := .boolean) (C := RX4) (T := TX4) (N := 15) hx hb hts (fun w h => woX4_join w (inX4 w h)) tyX4 tyX4_ok nmX4 hown hK hP hD hS 0 rfl rfl 12 (by decide) (hts _ (woX4_join _ wd_505)) (fun _ h9 => h9) rfl (by decide +kernel) rfl rfl (Nat.le_of_ble_eq_true rfl) dX4_join_88 (fun H locs hP hD hS => ?_)
      have hP : va_P (dC, dI) vwCl [(mA 0, .inr (4, [.int th, .ref (mA 1), .ref (mA 2), .ref (mA 3), .int (nI (mx_n T)), .int (nI (mx_m F)), .ref (mA 4), .ref (mA 5), .ref (mA 6), .ref (mA 7), .ref (mA 8), .ref (mA 9), .int 1, .ref (mA 10), .ref (mA 11)])), (mA 9, .inl (cI, 60, .inl (fun t => if t < mx_n T ∧ (le t = (nI (nn a)) ∨ le t = (nI (nn b))) then nI (nn b) else le t)))] H := hP
      have hD : va_D A [(mA 0, .inr (4, [.int th, .ref (mA 1), .ref (mA 2), .ref (mA 3), .int (nI (mx_n T)), .int (nI (mx_m F)), .ref (mA 4), .ref (mA 5), .ref (mA 6), .ref (mA 7), .ref (mA 8), .ref (mA 9), .int 1, .ref (mA 10), .ref (mA 11)])), (mA 9, .inl (cI, 60, .inl (fun t => if t < mx_n T ∧ (le t = (nI (nn a)) ∨ le t = (nI (nn b))) then nI (nn b) else le t)))] := hD
      have hle2 : ∀ t, t < mx_n T → (fun t => if t < mx_n T ∧ (le t = (nI (nn a)) ∨ le t = (nI (nn b))) then nI (nn b) else le t) t = if nn t = nn a ∨ nn t = nn b then nI (nn b) else le t := by
        intro t ht
        have ht2 := h.2 t ht
        have e1 : le t = nI (nn a) ↔ nn t = nn a := by rw [h.1 t ht]; exact nI_eq (by omega) (by omega)
        have e2 : le t = nI (nn b) ↔ nn t = nn b := by rw [h.1 t ht]; exact nI_eq (by omega) (by omega)
        show (if t < mx_n T ∧ (le t = nI (nn a) ∨ le t = nI (nn b)) then _ else _) = _
        by_cases q : nn t = nn a ∨ nn t = nn b
        · rw [if_pos q, if_pos ⟨ht, q.imp e1.mpr e2.mpr⟩]
        · rw [if_neg q, if_neg (fun z => q (z.2.imp e1.mp e2.mp))]
      have hP9 := hP.sub (ws' := [(mA 0, .inr (4, [.int th, .ref (mA 1), .ref (mA 2), .ref (mA 3), .int (nI (mx_n T)), .int (nI (mx_m F)), .ref (mA 4), .ref (mA 5), .ref (mA 6), .ref (mA 7), .ref (mA 8), .ref (mA 9), .int 1, .ref (mA 10), .ref (mA 11)])), (mA 9, .inl (cI, 60, .inl (fun t => if t < mx_n T ∧ (le t = (nI (nn a)) ∨ le t = (nI (nn b))) then nI (nn b) else le t)))]) [0, 1] rfl
      have hD9 := hD.sub (ws' := [(mA 0, .inr (4, [.int th, .ref (mA 1), .ref (mA 2), .ref (mA 3), .int (nI (mx_n T)), .int (nI (mx_m F)), .ref (mA 4), .ref (mA 5), .ref (mA 6), .ref (mA 7), .ref (mA 8), .ref (mA 9), .int 1, .ref (mA 10), .ref (mA 11)])), (mA 9, .inl (cI, 60, .inl (fun t => if t < mx_n T ∧ (le t = (nI (nn a)) ∨ le t = (nI (nn b))) then nI (nn b) else le t)))]) [0, 1] (by decide) rfl
      exact W.vret hx hb hr (fun t9 ht9 hW9 => ⟨⟨(fun t => if t < mx_n T ∧ (le t = (nI (nn a)) ∨ le t = (nI (nn b))) then nI (nn b) else le t, 1), rfl, mj_of h ha hb0 (Or.inr ⟨rfl, rfl⟩) hlt hle2, by rw [ht9]; exact hP9, va_K.moved hW9.alike hK, hD9⟩, hS.F ht9⟩) hS.2.2 dX4_join_91
    · have hlt : nn a < nn b := by have := mt (nI_leI (a := nn b) (b := nn a) (by omega) (by omega)).mpr c2; omega
      refine lv_iload_n hx hb dX4_join_28 rfl (lv_at hl 1 rfl) ?_
      refine lv_goto (tgt := 34) hx hb dX4_join_29 (by decide) ?_
      refine lv_istore (lv' := [(5, .int (nI (nn a))), (4, .int (nI (nn b))), (3, .int (nI (nn a))), (0, .ref (mA 0)), (1, .int (nI a)), (2, .int (nI b))]) hx hb dX4_join_34 hl (by decide) rfl (fun ls hl => ?_)
      refine lv_iconst (v := 0) hx hb dX4_join_36 (by decide) ?_
      refine lv_istore (lv' := [(6, .int 0), (5, .int (nI (nn a))), (4, .int (nI (nn b))), (3, .int (nI (nn a))), (0, .ref (mA 0)), (1, .int (nI a)), (2, .int (nI b))]) hx hb dX4_join_37 hl (by decide) rfl (fun ls hl => ?_)
      refine mj_loop hx hb hown hts hK hn hA hml (fun H locs ls hP hD hS hl => ?_) (mx_n T) 0 le _ _ _ (by omega) (fun t => (if_neg (fun q => absurd q.1 (Nat.not_lt_zero t))).symm) hP hD hS (lv_sub hl [4, 3, 2, 1, 0] rfl)
      have hP : va_P (dC, dI) vwCl [(mA 0, .inr (4, [.int th, .ref (mA 1), .ref (mA 2), .ref (mA 3), .int (nI (mx_n T)), .int (nI (mx_m F)), .ref (mA 4), .ref (mA 5), .ref (mA 6), .ref (mA 7), .ref (mA 8), .ref (mA 9), .int jo, .ref (mA 10), .ref (mA 11)])), (mA 9, .inl (cI, 60, .inl (fun t => if t < mx_n T ∧ (le t = (nI (nn a)) ∨ le t = (nI (nn b))) then nI (nn a) else le t)))] H := hP
      have hD : va_D A [(mA 0, .inr (4, [.int th, .ref (mA 1), .ref (mA 2), .ref (mA 3), .int (nI (mx_n T)), .int (nI (mx_m F)), .ref (mA 4), .ref (mA 5), .ref (mA 6), .ref (mA 7), .ref (mA 8), .ref (mA 9), .int jo, .ref (mA 10), .ref (mA 11)])), (mA 9, .inl (cI, 60, .inl (fun t => if t < mx_n T ∧ (le t = (nI (nn a)) ∨ le t = (nI (nn b))) then nI (nn a) else le t)))] := hD
      refine lv_aload_n hx hb dX4_join_86 rfl (lv_at hl 0 rfl) ?_
      refine lv_iconst (v := 1) hx hb dX4_join_87 (by decide) ?_
      refine va_put (D := (dC, dI)) (ci := 4) (v := .int 1) (ty := .boolean) (C := RX4) (T := TX4) (N := 15) hx hb hts (fun w h => woX4_join w (inX4 w h)) tyX4 tyX4_ok nmX4 hown hK hP hD hS 0 rfl rfl 12 (by decide) (hts _ (woX4_join _ wd_505)) (fun _ h9 => h9) rfl (by decide +kernel) rfl rfl (Nat.le_of_ble_eq_true rfl) dX4_join_88 (fun H locs hP hD hS => ?_)
      have hP : va_P (dC, dI) vwCl [(mA 0, .inr (4, [.int th, .ref (mA 1), .ref (mA 2), .ref (mA 3), .int (nI (mx_n T)), .int (nI (mx_m F)), .ref (mA 4), .ref (mA 5), .ref (mA 6), .ref (mA 7), .ref (mA 8), .ref (mA 9), .int 1, .ref (mA 10), .ref (mA 11)])), (mA 9, .inl (cI, 60, .inl (fun t => if t < mx_n T ∧ (le t = (nI (nn a)) ∨ le t = (nI (nn b))) then nI (nn a) else le t)))] H := hP
      have hD : va_D A [(mA 0, .inr (4, [.int th, .ref (mA 1), .ref (mA 2), .ref (mA 3), .int (nI (mx_n T)), .int (nI (mx_m F)), .ref (mA 4), .ref (mA 5), .ref (mA 6), .ref (mA 7), .ref (mA 8), .ref (mA 9), .int 1, .ref (mA 10), .ref (mA 11)])), (mA 9, .inl (cI, 60, .inl (fun t => if t < mx_n T ∧ (le t = (nI (nn a)) ∨ le t = (nI (nn b))) then nI (nn a) else le t)))] := hD
      have hle2 : ∀ t, t < mx_n T → (fun t => if t < mx_n T ∧ (le t = (nI (nn a)) ∨ le t = (nI (nn b))) then nI (nn a) else le t) t = if nn t = nn a ∨ nn t = nn b then nI (nn a) else le t := by
        intro t ht
        have ht2 := h.2 t ht
        have e1 : le t = nI (nn a) ↔ nn t = nn a := by rw [h.1 t ht]; exact nI_eq (by omega) (by omega)
        have e2 : le t = nI (nn b) ↔ nn t = nn b := by rw [h.1 t ht]; exact nI_eq (by omega) (by omega)
        show (if t < mx_n T ∧ (le t = nI (nn a) ∨ le t = nI (nn b)) then _ else _) = _
        by_cases q : nn t = nn a ∨ nn t = nn b
        · rw [if_pos q, if_pos ⟨ht, q.imp e1.mpr e2.mpr⟩]
        · rw [if_neg q, if_neg (fun z => q (z.2.imp e1.mp e2.mp))]
      have hP9 := hP.sub (ws' := [(mA 0, .inr (4, [.int th, .ref (mA 1), .ref (mA 2), .ref (mA 3), .int (nI (mx_n T)), .int (nI (mx_m F)), .ref (mA 4), .ref (mA 5), .ref (mA 6), .ref (mA 7), .ref (mA 8), .ref (mA 9), .int 1, .ref (mA 10), .ref (mA 11)])), (mA 9, .inl (cI, 60, .inl (fun t => if t < mx_n T ∧ (le t = (nI (nn a)) ∨ le t = (nI (nn b))) then nI (nn a) else le t)))]) [0, 1] rfl
      have hD9 := hD.sub (ws' := [(mA 0, .inr (4, [.int th, .ref (mA 1), .ref (mA 2), .ref (mA 3), .int (nI (mx_n T)), .int (nI (mx_m F)), .ref (mA 4), .ref (mA 5), .ref (mA 6), .ref (mA 7), .ref (mA 8), .ref (mA 9), .int 1, .ref (mA 10), .ref (mA 11)])), (mA 9, .inl (cI, 60, .inl (fun t => if t < mx_n T ∧ (le t = (nI (nn a)) ∨ le t = (nI (nn b))) then nI (nn a) else le t)))]) [0, 1] (by decide) rfl
      exact W.vret hx hb hr (fun t9 ht9 hW9 => ⟨⟨(fun t => if t < mx_n T ∧ (le t = (nI (nn a)) ∨ le t = (nI (nn b))) then nI (nn a) else le t, 1), rfl, mj_of h ha hb0 (Or.inl ⟨rfl, rfl⟩) hlt hle2, by rw [ht9]; exact hP9, va_K.moved hW9.alike hK, hD9⟩, hS.F ht9⟩) hS.2.2 dX4_join_91
  · have he : nn a = nn b := (nI_eq (by omega) (by omega)).mp c1
    have hP9 := hP.sub (ws' := [(mA 0, .inr (4, [.int th, .ref (mA 1), .ref (mA 2), .ref (mA 3), .int (nI (mx_n T)), .int (nI (mx_m F)), .ref (mA 4), .ref (mA 5), .ref (mA 6), .ref (mA 7), .ref (mA 8), .ref (mA 9), .int jo, .ref (mA 10), .ref (mA 11)])), (mA 9, .inl (cI, 60, .inl le))]) [0, 1] rfl
    have hD9 := hD.sub (ws' := [(mA 0, .inr (4, [.int th, .ref (mA 1), .ref (mA 2), .ref (mA 3), .int (nI (mx_n T)), .int (nI (mx_m F)), .ref (mA 4), .ref (mA 5), .ref (mA 6), .ref (mA 7), .ref (mA 8), .ref (mA 9), .int jo, .ref (mA 10), .ref (mA 11)])), (mA 9, .inl (cI, 60, .inl le))]) [0, 1] (by decide) rfl
    exact W.vret hx hb hr (fun t9 ht9 hW9 => ⟨⟨(le, jo), rfl, mj_same h he, by rw [ht9]; exact hP9, va_K.moved hW9.alike hK, hD9⟩, hS.F ht9⟩) hS.2.2 dX4_join_21
