/-! JOIN -/
/-- what a join, or several, leave: rows by new names, some steps later -/
def jn_Q (T : mx_T) (nn : Nat → Nat) (un : Int64) (E : Nat → Nat → Prop) (P : (Nat → Nat) → Prop) (u : (Nat → Int32) × (Nat → Int64) × (Nat → Int64) × (Nat → Int64) × (Nat → Int64) × (Nat → Int64) × (Nat → Int32) × Int64 × Int32) : Prop := match u with
  | (nm2, me2, fu2, su2, tu2, be2, bd2, un2, mi2) => ∃ nn2 : Nat → Nat, rk_ok T nn2 nm2 me2 fu2 su2 tu2 be2 bd2 mi2 ∧ mx_step T E nn un nn2 un2 ∧ P nn2

set_option maxHeartbeats 4000000 in
set_option maxRecDepth 100000 in
/-- the names of the row that goes -/
theorem jn_loop {p : Program} {l : Launch} {e : Env} {s : State} {m : MethodId} {args : Array Value} {below : List Frame} {meth : Method} {c : Code} {Q : State → Prop} (hx : p.tables.exec = Jvm.exec) (hb : c.code = cX1_join) (hown : s.vm.findClass RX1 = some m.cls) (hts : ∀ w ∈ wsX1_join, w.before args s = true) {dC : Nat → ClassId} {dI : Nat → Nat → Nat} {cI cJ cZ : ClassId} (hK : va_K (dC, dI) vwCl [(cI, .int), (cJ, .long), (cZ, .boolean)] s) {tA : Nat → Nat} {rA : Nat → Nat} {me : Nat → Int64} {fu : Nat → Int64} {su : Nat → Int64} {tu : Nat → Int64} {be : Nat → Int64} {bd : Nat → Int32} {un : Int64} {mi : Int32} {bu : Int64} {ct : Int32} {kept : Nat} {gone : Nat} {g : Nat → Int32} (hk : kept < 60) {A : Nat → Prop} {H0 : Heap} (hA : ∀ q : Nat, H0.size ≤ q → A q) (hml : c.maxLocals = 9) (kk : ∀ (H : Heap) (locs : List Loc) (ls : Array Slot), va_P (dC, dI) vwCl [(rA 0, .inr (1, [.ref (tA 0), .ref (rA 1), .ref (rA 2), .ref (rA 3), .ref (rA 4), .ref (rA 5), .ref (rA 6), .ref (rA 7), .long un, .int mi])), (rA 1, .inl (cI, 60, .inl g)), (rA 2, .inl (cJ, 60, .inr (.inl me))), (rA 3, .inl (cJ, 60, .inr (.inl fu))), (rA 4, .inl (cJ, 60, .inr (.inl su))), (rA 5, .inl (cJ, 60, .inr (.inl tu))), (rA 6, .inl (cJ, 60, .inr (.inl be))), (rA 7, .inl (cI, 60, .inl bd)), (tA 0, .inr (2, [.ref (tA 1), .ref (tA 2), .ref (tA 3), .ref (tA 4), .ref (tA 5), .ref (tA 6), .ref (tA 7), .ref (tA 8), .long bu, .int ct]))] H → va_D A [(rA 0, .inr (1, [.ref (tA 0), .ref (rA 1), .ref (rA 2), .ref (rA 3), .ref (rA 4), .ref (rA 5), .ref (rA 6), .ref (rA 7), .long un, .int mi])), (rA 1, .inl (cI, 60, .inl g)), (rA 2, .inl (cJ, 60, .inr (.inl me))), (rA 3, .inl (cJ, 60, .inr (.inl fu))), (rA 4, .inl (cJ, 60, .inr (.inl su))), (rA 5, .inl (cJ, 60, .inr (.inl tu))), (rA 6, .inl (cJ, 60, .inr (.inl be))), (rA 7, .inl (cI, 60, .inl bd)), (tA 0, .inr (2, [.ref (tA 1), .ref (tA 2), .ref (tA 3), .ref (tA 4), .ref (tA 5), .ref (tA 6), .ref (tA 7), .ref (tA 8), .long bu, .int ct]))] → va_S A H0 H locs → lv_has ls 9 [(0, .ref (rA 0)), (4, .int (nI kept)), (5, .int (nI gone))] → W p l e ({ frames := 2, cells := 0, slots := 0, locals := 43 }) s m args below meth c H locs 0 0 Q (F0 m 146 ls [])) : ∀ (left : Nat) (mv : Int64) (f : Nat → Int32) (H : Heap) (locs : List Loc) (ls : Array Slot), jb_cnt mv = left → (∀ i, jb mv i = true → i < 60) → (fun t => if jb mv t = true then nI kept else f t) = g → va_P (dC, dI) vwCl [(rA 0, .inr (1, [.ref (tA 0), .ref (rA 1), .ref (rA 2), .ref (rA 3), .ref (rA 4), .ref (rA 5), .ref (rA 6), .ref (rA 7), .long un, .int mi])), (rA 1, .inl (cI, 60, .inl f)), (rA 2, .inl (cJ, 60, .inr (.inl me))), (rA 3, .inl (cJ, 60, .inr (.inl fu))), (rA 4, .inl (cJ, 60, .inr (.inl su))), (rA 5, .inl (cJ, 60, .inr (.inl tu))), (rA 6, .inl (cJ, 60, .inr (.inl be))), (rA 7, .inl (cI, 60, .inl bd)), (tA 0, .inr (2, [.ref (tA 1), .ref (tA 2), .ref (tA 3), .ref (tA 4), .ref (tA 5), .ref (tA 6), .ref (tA 7), .ref (tA 8), .long bu, .int ct]))] H → va_D A [(rA 0, .inr (1, [.ref (tA 0), .ref (rA 1), .ref (rA 2), .ref (rA 3), .ref (rA 4), .ref (rA 5), .ref (rA 6), .ref (rA 7), .long un, .int mi])), (rA 1, .inl (cI, 60, .inl f)), (rA 2, .inl (cJ, 60, .inr (.inl me))), (rA 3, .inl (cJ, 60, .inr (.inl fu))), (rA 4, .inl (cJ, 60, .inr (.inl su))), (rA 5, .inl (cJ, 60, .inr (.inl tu))), (rA 6, .inl (cJ, 60, .inr (.inl be))), (rA 7, .inl (cI, 60, .inl bd)), (tA 0, .inr (2, [.ref (tA 1), .ref (tA 2), .ref (tA 3), .ref (tA 4), .ref (tA 5), .ref (tA 6), .ref (tA 7), .ref (tA 8), .long bu, .int ct]))] → va_S A H0 H locs → lv_has ls 9 [(0, .ref (rA 0)), (4, .int (nI kept)), (5, .int (nI gone)), (6, .long mv), (8, .int (nI left))] → W p l e ({ frames := 2, cells := 0, slots := 0, locals := 43 }) s m args below meth c H locs 0 0 Q (F0 m 114 ls []) := by
  intro left
  induction left with
  | zero =>
    intro mv f H locs ls hc hb0 hg hP hD hS hl
    refine lv_iload hx hb dX1_join_114 (lv_at hl 4 rfl) ?_
    refine lv_if_le (tgt := 146) hx hb dX1_join_116 (by decide) (fun c1 => ?_) (fun c1 => ?_)
    · have hz : mv = 0 := jb_cnt_0.mp hc
      have e1 : f = g := by rw [← hg, hz]; funext t; simp [jb_0]
      rw [e1] at hP hD
      exact kk _ _ _ hP hD hS (lv_sub hl [0, 1, 2] rfl)
    · exact absurd (show nI 0 ≤ 0 by decide) c1
  | succ left ih =>
    intro mv f H locs ls hc hb0 hg hP hD hS hl
    have hne : ¬ mv = 0 := fun z => by rw [jb_cnt_0.mpr z] at hc; omega
    obtain ⟨k, hk64, hlow⟩ := jb_low_ex hne
    have hk60 : k < 60 := hb0 k hlow.1
    have hcn : left + 1 ≤ 64 := by rw [← hc]; exact jb_cnt_le mv
    refine lv_iload hx hb dX1_join_114 (lv_at hl 4 rfl) ?_
    refine lv_if_le (tgt := 146) hx hb dX1_join_116 (by decide) (fun c1 => ?_) (fun c1 => ?_)
    · exact absurd c1 (nI_nle (by omega) (by omega))
    · refine lv_aload_n hx hb dX1_join_119 rfl (lv_at hl 0 rfl) ?_
      refine va_get (D := (dC, dI)) (ci := 1) (v := .ref (rA 1)) (C := RX1) (T := TX1) (N := 10) hx hb hts (fun w h => woX1_join w (inX1 w h)) hown hK hP 0 rfl rfl 1 (by decide) (hts _ (woX1_join _ wd_109)) (fun _ h9 => h9) rfl dX1_join_120 ?_
      refine lv_lload hx hb dX1_join_123 (lv_at hl 3 rfl) ?_
      refine vp_callSi (W.runS (As := [.long mv]) (rest := [.ref (rA 1)]) ⟨hx, hb, hml, hown, hts⟩ (c_ntz l mv k hlow.1 (fun i hi => ts_nt (hlow.2 i hi))) (va_cwS 1 hts (w0_goodS woX1_join wd_207 wd_205 wd_206 wd_12) rfl rfl rfl (by decide +kernel) ⟨Nat.le_of_ble_eq_true rfl, Nat.le_of_ble_eq_true rfl⟩) ⟨fun a U g mk q => q, fun U hU hW => ⟨rfl, trivial⟩⟩ rfl rfl hl.1 rfl (lv_room (Nat.le_of_ble_eq_true rfl)) dX1_join_125 ⟨Nat.zero_le _, Nat.zero_le _⟩) (fun r er => ?_)
      subst er
      refine lv_iload hx hb dX1_join_128 (lv_at hl 1 rfl) ?_
      refine va_iast hx hb hK hP hD hS 1 0 rfl rfl (vp_in_nI (by omega) (by omega)) dX1_join_130 (fun H locs hP hD hS => ?_)
      rw [show (nI k).toNatClampNeg = k from nI_clamp (by omega)] at hP hD
      have hP : va_P (dC, dI) vwCl [(rA 0, .inr (1, [.ref (tA 0), .ref (rA 1), .ref (rA 2), .ref (rA 3), .ref (rA 4), .ref (rA 5), .ref (rA 6), .ref (rA 7), .long un, .int mi])), (rA 1, .inl (cI, 60, .inl (upd f k (nI kept)))), (rA 2, .inl (cJ, 60, .inr (.inl me))), (rA 3, .inl (cJ, 60, .inr (.inl fu))), (rA 4, .inl (cJ, 60, .inr (.inl su))), (rA 5, .inl (cJ, 60, .inr (.inl tu))), (rA 6, .inl (cJ, 60, .inr (.inl be))), (rA 7, .inl (cI, 60, .inl bd)), (tA 0, .inr (2, [.ref (tA 1), .ref (tA 2), .ref (tA 3), .ref (tA 4), .ref (tA 5), .ref (tA 6), .ref (tA 7), .ref (tA 8), .long bu, .int ct]))] H := hP
      have hD : va_D A [(rA 0, .inr (1, [.ref (tA 0), .ref (rA 1), .ref (rA 2), .ref (rA 3), .ref (rA 4), .ref (rA 5), .ref (rA 6), .ref (rA 7), .long un, .int mi])), (rA 1, .inl (cI, 60, .inl (upd f k (nI kept)))), (rA 2, .inl (cJ, 60, .inr (.inl me))), (rA 3, .inl (cJ, 60, .inr (.inl fu))), (rA 4, .inl (cJ, 60, .inr (.inl su))), (rA 5, .inl (cJ, 60, .inr (.inl tu))), (rA 6, .inl (cJ, 60, .inr (.inl be))), (rA 7, .inl (cI, 60, .inl bd)), (tA 0, .inr (2, [.ref (tA 1), .ref (tA 2), .ref (tA 3), .ref (tA 4), .ref (tA 5), .ref (tA 6), .ref (tA 7), .ref (tA 8), .long bu, .int ct]))] := hD
      refine lv_lload hx hb dX1_join_131 (lv_at hl 3 rfl) ?_
      refine lv_lload hx hb dX1_join_133 (lv_at hl 3 rfl) ?_
      refine lv_lconst (v := 1) hx hb dX1_join_135 (by decide) ?_
      refine lv_lsub hx hb dX1_join_136 ?_
      refine lv_land hx hb dX1_join_137 ?_
      refine lv_lstore (lv' := [(6, .long (mv &&& (mv - 1))), (0, .ref (rA 0)), (4, .int (nI kept)), (5, .int (nI gone)), (8, .int (nI (left + 1)))]) hx hb dX1_join_138 hl (by decide) rfl (fun ls hl => ?_)
      obtain ⟨y_1, ey_1⟩ : ∃ y : Int32, y = (nI (left + 1)) + (-1) := ⟨_, rfl⟩
      refine lv_iinc (v := y_1) (lv' := [(8, .int y_1), (6, .long (mv &&& (mv - 1))), (0, .ref (rA 0)), (4, .int (nI kept)), (5, .int (nI gone))]) hx hb dX1_join_140 hl (k := 4) rfl (by rw [ey_1]; rfl) (by decide) rfl (fun ls hl => ?_)
      refine lv_goto (tgt := 114) hx hb dX1_join_143 (by decide) ?_
      rw [ey_1, pk_m1] at hl
      refine ih (mv &&& (mv - 1)) (upd f k (nI kept)) _ _ _ ?_ ?_ ?_ hP hD hS (lv_sub hl [2, 3, 4, 1, 0] rfl)
      · have := jb_cnt_clr hlow; omega
      · intro i hi; rw [jb_clr hlow, Bool.and_eq_true] at hi; exact hb0 i hi.1
      · rw [← hg]; funext t; rw [jb_clr hlow]; by_cases z : t = k
        · subst z; simp [show jb mv t = true from hlow.1, pk_us]
        · simp [z, pk_un z]

set_option maxHeartbeats 4000000 in
set_option maxRecDepth 100000 in
/-- the rows kept and gone put together -/
theorem jn_98 {p : Program} {l : Launch} {e : Env} {s : State} {m : MethodId} {args : Array Value} {below : List Frame} {meth : Method} {c : Code} {Q : State → Prop} (hx : p.tables.exec = Jvm.exec) (hb : c.code = cX1_join) (hown : s.vm.findClass RX1 = some m.cls) (hts : ∀ w ∈ wsX1_join, w.before args s = true) {dC : Nat → ClassId} {dI : Nat → Nat → Nat} {cI cJ cZ : ClassId} (hK : va_K (dC, dI) vwCl [(cI, .int), (cJ, .long), (cZ, .boolean)] s) {tA : Nat → Nat} {rA : Nat → Nat} {nm : Nat → Int32} {me : Nat → Int64} {fu : Nat → Int64} {su : Nat → Int64} {tu : Nat → Int64} {be : Nat → Int64} {bd : Nat → Int32} {un : Int64} {mi : Int32} {bu : Int64} {ct : Int32} {kept : Nat} {gone : Nat} (hk : kept < 60) (hg : gone < 60) (hme : ∀ i, jb (me gone) i = true → i < 60) {A : Nat → Prop} {H0 H : Heap} {locs : List Loc} (hA : ∀ q : Nat, H0.size ≤ q → A q) (hP : va_P (dC, dI) vwCl [(rA 0, .inr (1, [.ref (tA 0), .ref (rA 1), .ref (rA 2), .ref (rA 3), .ref (rA 4), .ref (rA 5), .ref (rA 6), .ref (rA 7), .long un, .int mi])), (rA 1, .inl (cI, 60, .inl nm)), (rA 2, .inl (cJ, 60, .inr (.inl me))), (rA 3, .inl (cJ, 60, .inr (.inl fu))), (rA 4, .inl (cJ, 60, .inr (.inl su))), (rA 5, .inl (cJ, 60, .inr (.inl tu))), (rA 6, .inl (cJ, 60, .inr (.inl be))), (rA 7, .inl (cI, 60, .inl bd)), (tA 0, .inr (2, [.ref (tA 1), .ref (tA 2), .ref (tA 3), .ref (tA 4), .ref (tA 5), .ref (tA 6), .ref (tA 7), .ref (tA 8), .long bu, .int ct]))] H) (hD : va_D A [(rA 0, .inr (1, [.ref (tA 0), .ref (rA 1), .ref (rA 2), .ref (rA 3), .ref (rA 4), .ref (rA 5), .ref (rA 6), .ref (rA 7), .long un, .int mi])), (rA 1, .inl (cI, 60, .inl nm)), (rA 2, .inl (cJ, 60, .inr (.inl me))), (rA 3, .inl (cJ, 60, .inr (.inl fu))), (rA 4, .inl (cJ, 60, .inr (.inl su))), (rA 5, .inl (cJ, 60, .inr (.inl tu))), (rA 6, .inl (cJ, 60, .inr (.inl be))), (rA 7, .inl (cI, 60, .inl bd)), (tA 0, .inr (2, [.ref (tA 1), .ref (tA 2), .ref (tA 3), .ref (tA 4), .ref (tA 5), .ref (tA 6), .ref (tA 7), .ref (tA 8), .long bu, .int ct]))]) (hS : va_S A H0 H locs) {ls : Array Slot} (hml : c.maxLocals = 9) (hl : lv_has ls 9 [(0, .ref (rA 0)), (4, .int (nI kept)), (5, .int (nI gone))]) (kk : ∀ (H : Heap) (locs : List Loc) (ls : Array Slot), va_P (dC, dI) vwCl [(rA 0, .inr (1, [.ref (tA 0), .ref (rA 1), .ref (rA 2), .ref (rA 3), .ref (rA 4), .ref (rA 5), .ref (rA 6), .ref (rA 7), .long (un ||| ((((vp_updL fu kept (fu kept ||| fu gone)) kept ||| (vp_updL su kept (su kept ||| su gone)) kept) ||| (vp_updL tu kept (tu kept ||| tu gone)) kept) ||| ((vp_updL me kept (me kept ||| me gone)) kept &&& bu))), .int (jb_mi bd mi kept gone)])), (rA 1, .inl (cI, 60, .inl (fun t => if jb (me gone) t = true then nI kept else nm t))), (rA 2, .inl (cJ, 60, .inr (.inl (vp_updL me kept (me kept ||| me gone))))), (rA 3, .inl (cJ, 60, .inr (.inl (vp_updL fu kept (fu kept ||| fu gone))))), (rA 4, .inl (cJ, 60, .inr (.inl (vp_updL su kept (su kept ||| su gone))))), (rA 5, .inl (cJ, 60, .inr (.inl (vp_updL tu kept (tu kept ||| tu gone))))), (rA 6, .inl (cJ, 60, .inr (.inl (vp_updL be kept (be kept ||| be gone))))), (rA 7, .inl (cI, 60, .inl (jb_bd bd kept gone))), (tA 0, .inr (2, [.ref (tA 1), .ref (tA 2), .ref (tA 3), .ref (tA 4), .ref (tA 5), .ref (tA 6), .ref (tA 7), .ref (tA 8), .long bu, .int ct]))] H → va_D A [(rA 0, .inr (1, [.ref (tA 0), .ref (rA 1), .ref (rA 2), .ref (rA 3), .ref (rA 4), .ref (rA 5), .ref (rA 6), .ref (rA 7), .long (un ||| ((((vp_updL fu kept (fu kept ||| fu gone)) kept ||| (vp_updL su kept (su kept ||| su gone)) kept) ||| (vp_updL tu kept (tu kept ||| tu gone)) kept) ||| ((vp_updL me kept (me kept ||| me gone)) kept &&& bu))), .int (jb_mi bd mi kept gone)])), (rA 1, .inl (cI, 60, .inl (fun t => if jb (me gone) t = true then nI kept else nm t))), (rA 2, .inl (cJ, 60, .inr (.inl (vp_updL me kept (me kept ||| me gone))))), (rA 3, .inl (cJ, 60, .inr (.inl (vp_updL fu kept (fu kept ||| fu gone))))), (rA 4, .inl (cJ, 60, .inr (.inl (vp_updL su kept (su kept ||| su gone))))), (rA 5, .inl (cJ, 60, .inr (.inl (vp_updL tu kept (tu kept ||| tu gone))))), (rA 6, .inl (cJ, 60, .inr (.inl (vp_updL be kept (be kept ||| be gone))))), (rA 7, .inl (cI, 60, .inl (jb_bd bd kept gone))), (tA 0, .inr (2, [.ref (tA 1), .ref (tA 2), .ref (tA 3), .ref (tA 4), .ref (tA 5), .ref (tA 6), .ref (tA 7), .ref (tA 8), .long bu, .int ct]))] → va_S A H0 H locs → W p l e ({ frames := 2, cells := 0, slots := 0, locals := 43 }) s m args below meth c H locs 0 0 Q (F0 m 287 ls [])) : W p l e ({ frames := 2, cells := 0, slots := 0, locals := 43 }) s m args below meth c H locs 0 0 Q (F0 m 98 ls []) := by
  refine lv_aload_n hx hb dX1_join_98 rfl (lv_at hl 0 rfl) ?_
  refine va_get (D := (dC, dI)) (ci := 1) (v := .ref (rA 2)) (C := RX1) (T := TX1) (N := 10) hx hb hts (fun w h => woX1_join w (inX1 w h)) hown hK hP 0 rfl rfl 2 (by decide) (hts _ (woX1_join _ wd_111)) (fun _ h9 => h9) rfl dX1_join_99 ?_
  refine lv_iload hx hb dX1_join_102 (lv_at hl 2 rfl) ?_
  refine va_lald hx hb hK hP 2 1 rfl rfl (vp_in_nI (by omega) (by omega)) dX1_join_104 ?_
  rw [show (nI gone).toNatClampNeg = gone from nI_clamp (by omega)]
  refine lv_lstore (lv' := [(6, .long (me gone)), (0, .ref (rA 0)), (4, .int (nI kept)), (5, .int (nI gone))]) hx hb dX1_join_105 hl (by decide) rfl (fun ls hl => ?_)
  refine lv_lload hx hb dX1_join_107 (lv_at hl 0 rfl) ?_
  refine vp_callSi (W.runS (As := [.long (me gone)]) (rest := []) ⟨hx, hb, hml, hown, hts⟩ (c_bitCount l (me gone)) (va_cwS 1 hts (w0_goodS woX1_join wd_165 wd_204 wd_164 wd_12) rfl rfl rfl (by decide +kernel) ⟨Nat.le_of_ble_eq_true rfl, Nat.le_of_ble_eq_true rfl⟩) ⟨fun a U g mk q => q, fun U hU hW => ⟨rfl, trivial⟩⟩ rfl rfl hl.1 rfl (lv_room (Nat.le_of_ble_eq_true rfl)) dX1_join_109 ⟨Nat.zero_le _, Nat.zero_le _⟩) (fun r er => ?_)
  subst er
  refine lv_istore (lv' := [(8, .int (nI (jb_cnt (me gone)))), (6, .long (me gone)), (0, .ref (rA 0)), (4, .int (nI kept)), (5, .int (nI gone))]) hx hb dX1_join_112 hl (by decide) rfl (fun ls hl => ?_)
  refine jn_loop hx hb hown hts hK hk hA hml (fun H locs ls hP hD hS hl => ?_) (jb_cnt (me gone)) (me gone) nm _ _ _ rfl hme rfl hP hD hS (lv_sub hl [2, 3, 4, 1, 0] rfl)
  have hP : va_P (dC, dI) vwCl [(rA 0, .inr (1, [.ref (tA 0), .ref (rA 1), .ref (rA 2), .ref (rA 3), .ref (rA 4), .ref (rA 5), .ref (rA 6), .ref (rA 7), .long un, .int mi])), (rA 1, .inl (cI, 60, .inl (fun t => if jb (me gone) t = true then nI kept else nm t))), (rA 2, .inl (cJ, 60, .inr (.inl me))), (rA 3, .inl (cJ, 60, .inr (.inl fu))), (rA 4, .inl (cJ, 60, .inr (.inl su))), (rA 5, .inl (cJ, 60, .inr (.inl tu))), (rA 6, .inl (cJ, 60, .inr (.inl be))), (rA 7, .inl (cI, 60, .inl bd)), (tA 0, .inr (2, [.ref (tA 1), .ref (tA 2), .ref (tA 3), .ref (tA 4), .ref (tA 5), .ref (tA 6), .ref (tA 7), .ref (tA 8), .long bu, .int ct]))] H := hP
  have hD : va_D A [(rA 0, .inr (1, [.ref (tA 0), .ref (rA 1), .ref (rA 2), .ref (rA 3), .ref (rA 4), .ref (rA 5), .ref (rA 6), .ref (rA 7), .long un, .int mi])), (rA 1, .inl (cI, 60, .inl (fun t => if jb (me gone) t = true then nI kept else nm t))), (rA 2, .inl (cJ, 60, .inr (.inl me))), (rA 3, .inl (cJ, 60, .inr (.inl fu))), (rA 4, .inl (cJ, 60, .inr (.inl su))), (rA 5, .inl (cJ, 60, .inr (.inl tu))), (rA 6, .inl (cJ, 60, .inr (.inl be))), (rA 7, .inl (cI, 60, .inl bd)), (tA 0, .inr (2, [.ref (tA 1), .ref (tA 2), .ref (tA 3), .ref (tA 4), .ref (tA 5), .ref (tA 6), .ref (tA 7), .ref (tA 8), .long bu, .int ct]))] := hD
  refine lv_aload_n hx hb dX1_join_146 rfl (lv_at hl 0 rfl) ?_
  refine va_get (D := (dC, dI)) (ci := 1) (v := .ref (rA 2)) (C := RX1) (T := TX1) (N := 10) hx hb hts (fun w h => woX1_join w (inX1 w h)) hown hK hP 0 rfl rfl 2 (by decide) (hts _ (woX1_join _ wd_111)) (fun _ h9 => h9) rfl dX1_join_147 ?_
  refine lv_iload hx hb dX1_join_150 (lv_at hl 1 rfl) ?_
  refine lv_dup2_11 hx hb dX1_join_152 rfl rfl ?_
  refine va_lald hx hb hK hP 2 1 rfl rfl (vp_in_nI (by omega) (by omega)) dX1_join_153 ?_
  rw [show (nI kept).toNatClampNeg = kept from nI_clamp (by omega)]
  refine lv_aload_n hx hb dX1_join_154 rfl (lv_at hl 0 rfl) ?_
  refine va_get (D := (dC, dI)) (ci := 1) (v := .ref (rA 2)) (C := RX1) (T := TX1) (N := 10) hx hb hts (fun w h => woX1_join w (inX1 w h)) hown hK hP 0 rfl rfl 2 (by decide) (hts _ (woX1_join _ wd_111)) (fun _ h9 => h9) rfl dX1_join_155 ?_
  refine lv_iload hx hb dX1_join_158 (lv_at hl 2 rfl) ?_
  refine va_lald hx hb hK hP 2 1 rfl rfl (vp_in_nI (by omega) (by omega)) dX1_join_160 ?_
  rw [show (nI gone).toNatClampNeg = gone from nI_clamp (by omega)]
  refine lv_lor hx hb dX1_join_161 ?_
  refine va_last hx hb hK hP hD hS 2 1 rfl rfl (vp_in_nI (by omega) (by omega)) dX1_join_162 (fun H locs hP hD hS => ?_)
  rw [show (nI kept).toNatClampNeg = kept from nI_clamp (by omega)] at hP hD
  have hP : va_P (dC, dI) vwCl [(rA 0, .inr (1, [.ref (tA 0), .ref (rA 1), .ref (rA 2), .ref (rA 3), .ref (rA 4), .ref (rA 5), .ref (rA 6), .ref (rA 7), .long un, .int mi])), (rA 1, .inl (cI, 60, .inl (fun t => if jb (me gone) t = true then nI kept else nm t))), (rA 2, .inl (cJ, 60, .inr (.inl (vp_updL me kept ((me kept) ||| (me gone)))))), (rA 3, .inl (cJ, 60, .inr (.inl fu))), (rA 4, .inl (cJ, 60, .inr (.inl su))), (rA 5, .inl (cJ, 60, .inr (.inl tu))), (rA 6, .inl (cJ, 60, .inr (.inl be))), (rA 7, .inl (cI, 60, .inl bd)), (tA 0, .inr (2, [.ref (tA 1), .ref (tA 2), .ref (tA 3), .ref (tA 4), .ref (tA 5), .ref (tA 6), .ref (tA 7), .ref (tA 8), .long bu, .int ct]))] H := hP
  have hD : va_D A [(rA 0, .inr (1, [.ref (tA 0), .ref (rA 1), .ref (rA 2), .ref (rA 3), .ref (rA 4), .ref (rA 5), .ref (rA 6), .ref (rA 7), .long un, .int mi])), (rA 1, .inl (cI, 60, .inl (fun t => if jb (me gone) t = true then nI kept else nm t))), (rA 2, .inl (cJ, 60, .inr (.inl (vp_updL me kept ((me kept) ||| (me gone)))))), (rA 3, .inl (cJ, 60, .inr (.inl fu))), (rA 4, .inl (cJ, 60, .inr (.inl su))), (rA 5, .inl (cJ, 60, .inr (.inl tu))), (rA 6, .inl (cJ, 60, .inr (.inl be))), (rA 7, .inl (cI, 60, .inl bd)), (tA 0, .inr (2, [.ref (tA 1), .ref (tA 2), .ref (tA 3), .ref (tA 4), .ref (tA 5), .ref (tA 6), .ref (tA 7), .ref (tA 8), .long bu, .int ct]))] := hD
  refine lv_aload_n hx hb dX1_join_163 rfl (lv_at hl 0 rfl) ?_
  refine va_get (D := (dC, dI)) (ci := 1) (v := .ref (rA 3)) (C := RX1) (T := TX1) (N := 10) hx hb hts (fun w h => woX1_join w (inX1 w h)) hown hK hP 0 rfl rfl 3 (by decide) (hts _ (woX1_join _ wd_113)) (fun _ h9 => h9) rfl dX1_join_164 ?_
  refine lv_iload hx hb dX1_join_167 (lv_at hl 1 rfl) ?_
  refine lv_dup2_11 hx hb dX1_join_169 rfl rfl ?_
  refine va_lald hx hb hK hP 3 1 rfl rfl (vp_in_nI (by omega) (by omega)) dX1_join_170 ?_
  rw [show (nI kept).toNatClampNeg = kept from nI_clamp (by omega)]
  refine lv_aload_n hx hb dX1_join_171 rfl (lv_at hl 0 rfl) ?_
  refine va_get (D := (dC, dI)) (ci := 1) (v := .ref (rA 3)) (C := RX1) (T := TX1) (N := 10) hx hb hts (fun w h => woX1_join w (inX1 w h)) hown hK hP 0 rfl rfl 3 (by decide) (hts _ (woX1_join _ wd_113)) (fun _ h9 => h9) rfl dX1_join_172 ?_
  refine lv_iload hx hb dX1_join_175 (lv_at hl 2 rfl) ?_
  refine va_lald hx hb hK hP 3 1 rfl rfl (vp_in_nI (by omega) (by omega)) dX1_join_177 ?_
  rw [show (nI gone).toNatClampNeg = gone from nI_clamp (by omega)]
  refine lv_lor hx hb dX1_join_178 ?_
  refine va_last hx hb hK hP hD hS 3 1 rfl rfl (vp_in_nI (by omega) (by omega)) dX1_join_179 (fun H locs hP hD hS => ?_)
  rw [show (nI kept).toNatClampNeg = kept from nI_clamp (by omega)] at hP hD
  have hP : va_P (dC, dI) vwCl [(rA 0, .inr (1, [.ref (tA 0), .ref (rA 1), .ref (rA 2), .ref (rA 3), .ref (rA 4), .ref (rA 5), .ref (rA 6), .ref (rA 7), .long un, .int mi])), (rA 1, .inl (cI, 60, .inl (fun t => if jb (me gone) t = true then nI kept else nm t))), (rA 2, .inl (cJ, 60, .inr (.inl (vp_updL me kept ((me kept) ||| (me gone)))))), (rA 3, .inl (cJ, 60, .inr (.inl (vp_updL fu kept ((fu kept) ||| (fu gone)))))), (rA 4, .inl (cJ, 60, .inr (.inl su))), (rA 5, .inl (cJ, 60, .inr (.inl tu))), (rA 6, .inl (cJ, 60, .inr (.inl be))), (rA 7, .inl (cI, 60, .inl bd)), (tA 0, .inr (2, [.ref (tA 1), .ref (tA 2), .ref (tA 3), .ref (tA 4), .ref (tA 5), .ref (tA 6), .ref (tA 7), .ref (tA 8), .long bu, .int ct]))] H := hP
  have hD : va_D A [(rA 0, .inr (1, [.ref (tA 0), .ref (rA 1), .ref (rA 2), .ref (rA 3), .ref (rA 4), .ref (rA 5), .ref (rA 6), .ref (rA 7), .long un, .int mi])), (rA 1, .inl (cI, 60, .inl (fun t => if jb (me gone) t = true then nI kept else nm t))), (rA 2, .inl (cJ, 60, .inr (.inl (vp_updL me kept ((me kept) ||| (me gone)))))), (rA 3, .inl (cJ, 60, .inr (.inl (vp_updL fu kept ((fu kept) ||| (fu gone)))))), (rA 4, .inl (cJ, 60, .inr (.inl su))), (rA 5, .inl (cJ, 60, .inr (.inl tu))), (rA 6, .inl (cJ, 60, .inr (.inl be))), (rA 7, .inl (cI, 60, .inl bd)), (tA 0, .inr (2, [.ref (tA 1), .ref (tA 2), .ref (tA 3), .ref (tA 4), .ref (tA 5), .ref (tA 6), .ref (tA 7), .ref (tA 8), .long bu, .int ct]))] := hD
  refine lv_aload_n hx hb dX1_join_180 rfl (lv_at hl 0 rfl) ?_
  refine va_get (D := (dC, dI)) (ci := 1) (v := .ref (rA 4)) (C := RX1) (T := TX1) (N := 10) hx hb hts (fun w h => woX1_join w (inX1 w h)) hown hK hP 0 rfl rfl 4 (by decide) (hts _ (woX1_join _ wd_114)) (fun _ h9 => h9) rfl dX1_join_181 ?_
  refine lv_iload hx hb dX1_join_184 (lv_at hl 1 rfl) ?_
  refine lv_dup2_11 hx hb dX1_join_186 rfl rfl ?_
  refine va_lald hx hb hK hP 4 1 rfl rfl (vp_in_nI (by omega) (by omega)) dX1_join_187 ?_
  rw [show (nI kept).toNatClampNeg = kept from nI_clamp (by omega)]
  refine lv_aload_n hx hb dX1_join_188 rfl (lv_at hl 0 rfl) ?_
  refine va_get (D := (dC, dI)) (ci := 1) (v := .ref (rA 4)) (C := RX1) (T := TX1) (N := 10) hx hb hts (fun w h => woX1_join w (inX1 w h)) hown hK hP 0 rfl rfl 4 (by decide) (hts _ (woX1_join _ wd_114)) (fun _ h9 => h9) rfl dX1_join_189 ?_
  refine lv_iload hx hb dX1_join_192 (lv_at hl 2 rfl) ?_
  refine va_lald hx hb hK hP 4 1 rfl rfl (vp_in_nI (by omega) (by omega)) dX1_join_194 ?_
  rw [show (nI gone).toNatClampNeg = gone from nI_clamp (by omega)]
  refine lv_lor hx hb dX1_join_195 ?_
  refine va_last hx hb hK hP hD hS 4 1 rfl rfl (vp_in_nI (by omega) (by omega)) dX1_join_196 (fun H locs hP hD hS => ?_)
  rw [show (nI kept).toNatClampNeg = kept from nI_clamp (by omega)] at hP hD
  have hP : va_P (dC, dI) vwCl [(rA 0, .inr (1, [.ref (tA 0), .ref (rA 1), .ref (rA 2), .ref (rA 3), .ref (rA 4), .ref (rA 5), .ref (rA 6), .ref (rA 7), .long un, .int mi])), (rA 1, .inl (cI, 60, .inl (fun t => if jb (me gone) t = true then nI kept else nm t))), (rA 2, .inl (cJ, 60, .inr (.inl (vp_updL me kept ((me kept) ||| (me gone)))))), (rA 3, .inl (cJ, 60, .inr (.inl (vp_updL fu kept ((fu kept) ||| (fu gone)))))), (rA 4, .inl (cJ, 60, .inr (.inl (vp_updL su kept ((su kept) ||| (su gone)))))), (rA 5, .inl (cJ, 60, .inr (.inl tu))), (rA 6, .inl (cJ, 60, .inr (.inl be))), (rA 7, .inl (cI, 60, .inl bd)), (tA 0, .inr (2, [.ref (tA 1), .ref (tA 2), .ref (tA 3), .ref (tA 4), .ref (tA 5), .ref (tA 6), .ref (tA 7), .ref (tA 8), .long bu, .int ct]))] H := hP
  have hD : va_D A [(rA 0, .inr (1, [.ref (tA 0), .ref (rA 1), .ref (rA 2), .ref (rA 3), .ref (rA 4), .ref (rA 5), .ref (rA 6), .ref (rA 7), .long un, .int mi])), (rA 1, .inl (cI, 60, .inl (fun t => if jb (me gone) t = true then nI kept else nm t))), (rA 2, .inl (cJ, 60, .inr (.inl (vp_updL me kept ((me kept) ||| (me gone)))))), (rA 3, .inl (cJ, 60, .inr (.inl (vp_updL fu kept ((fu kept) ||| (fu gone)))))), (rA 4, .inl (cJ, 60, .inr (.inl (vp_updL su kept ((su kept) ||| (su gone)))))), (rA 5, .inl (cJ, 60, .inr (.inl tu))), (rA 6, .inl (cJ, 60, .inr (.inl be))), (rA 7, .inl (cI, 60, .inl bd)), (tA 0, .inr (2, [.ref (tA 1), .ref (tA 2), .ref (tA 3), .ref (tA 4), .ref (tA 5), .ref (tA 6), .ref (tA 7), .ref (tA 8), .long bu, .int ct]))] := hD
  refine lv_aload_n hx hb dX1_join_197 rfl (lv_at hl 0 rfl) ?_
  refine va_get (D := (dC, dI)) (ci := 1) (v := .ref (rA 5)) (C := RX1) (T := TX1) (N := 10) hx hb hts (fun w h => woX1_join w (inX1 w h)) hown hK hP 0 rfl rfl 5 (by decide) (hts _ (woX1_join _ wd_115)) (fun _ h9 => h9) rfl dX1_join_198 ?_
  refine lv_iload hx hb dX1_join_201 (lv_at hl 1 rfl) ?_
  refine lv_dup2_11 hx hb dX1_join_203 rfl rfl ?_
  refine va_lald hx hb hK hP 5 1 rfl rfl (vp_in_nI (by omega) (by omega)) dX1_join_204 ?_
  rw [show (nI kept).toNatClampNeg = kept from nI_clamp (by omega)]
  refine lv_aload_n hx hb dX1_join_205 rfl (lv_at hl 0 rfl) ?_
  refine va_get (D := (dC, dI)) (ci := 1) (v := .ref (rA 5)) (C := RX1) (T := TX1) (N := 10) hx hb hts (fun w h => woX1_join w (inX1 w h)) hown hK hP 0 rfl rfl 5 (by decide) (hts _ (woX1_join _ wd_115)) (fun _ h9 => h9) rfl dX1_join_206 ?_
  refine lv_iload hx hb dX1_join_209 (lv_at hl 2 rfl) ?_
  refine va_lald hx hb hK hP 5 1 rfl rfl (vp_in_nI (by omega) (by omega)) dX1_join_211 ?_
  rw [show (nI gone).toNatClampNeg = gone from nI_clamp (by omega)]
  refine lv_lor hx hb dX1_join_212 ?_
  refine va_last hx hb hK hP hD hS 5 1 rfl rfl (vp_in_nI (by omega) (by omega)) dX1_join_213 (fun H locs hP hD hS => ?_)
  rw [show (nI kept).toNatClampNeg = kept from nI_clamp (by omega)] at hP hD
  have hP : va_P (dC, dI) vwCl [(rA 0, .inr (1, [.ref (tA 0), .ref (rA 1), .ref (rA 2), .ref (rA 3), .ref (rA 4), .ref (rA 5), .ref (rA 6), .ref (rA 7), .long un, .int mi])), (rA 1, .inl (cI, 60, .inl (fun t => if jb (me gone) t = true then nI kept else nm t))), (rA 2, .inl (cJ, 60, .inr (.inl (vp_updL me kept ((me kept) ||| (me gone)))))), (rA 3, .inl (cJ, 60, .inr (.inl (vp_updL fu kept ((fu kept) ||| (fu gone)))))), (rA 4, .inl (cJ, 60, .inr (.inl (vp_updL su kept ((su kept) ||| (su gone)))))), (rA 5, .inl (cJ, 60, .inr (.inl (vp_updL tu kept ((tu kept) ||| (tu gone)))))), (rA 6, .inl (cJ, 60, .inr (.inl be))), (rA 7, .inl (cI, 60, .inl bd)), (tA 0, .inr (2, [.ref (tA 1), .ref (tA 2), .ref (tA 3), .ref (tA 4), .ref (tA 5), .ref (tA 6), .ref (tA 7), .ref (tA 8), .long bu, .int ct]))] H := hP
  have hD : va_D A [(rA 0, .inr (1, [.ref (tA 0), .ref (rA 1), .ref (rA 2), .ref (rA 3), .ref (rA 4), .ref (rA 5), .ref (rA 6), .ref (rA 7), .long un, .int mi])), (rA 1, .inl (cI, 60, .inl (fun t => if jb (me gone) t = true then nI kept else nm t))), (rA 2, .inl (cJ, 60, .inr (.inl (vp_updL me kept ((me kept) ||| (me gone)))))), (rA 3, .inl (cJ, 60, .inr (.inl (vp_updL fu kept ((fu kept) ||| (fu gone)))))), (rA 4, .inl (cJ, 60, .inr (.inl (vp_updL su kept ((su kept) ||| (su gone)))))), (rA 5, .inl (cJ, 60, .inr (.inl (vp_updL tu kept ((tu kept) ||| (tu gone)))))), (rA 6, .inl (cJ, 60, .inr (.inl be))), (rA 7, .inl (cI, 60, .inl bd)), (tA 0, .inr (2, [.ref (tA 1), .ref (tA 2), .ref (tA 3), .ref (tA 4), .ref (tA 5), .ref (tA 6), .ref (tA 7), .ref (tA 8), .long bu, .int ct]))] := hD
  refine lv_aload_n hx hb dX1_join_214 rfl (lv_at hl 0 rfl) ?_
  refine va_get (D := (dC, dI)) (ci := 1) (v := .ref (rA 6)) (C := RX1) (T := TX1) (N := 10) hx hb hts (fun w h => woX1_join w (inX1 w h)) hown hK hP 0 rfl rfl 6 (by decide) (hts _ (woX1_join _ wd_116)) (fun _ h9 => h9) rfl dX1_join_215 ?_
  refine lv_iload hx hb dX1_join_218 (lv_at hl 1 rfl) ?_
  refine lv_dup2_11 hx hb dX1_join_220 rfl rfl ?_
  refine va_lald hx hb hK hP 6 1 rfl rfl (vp_in_nI (by omega) (by omega)) dX1_join_221 ?_
  rw [show (nI kept).toNatClampNeg = kept from nI_clamp (by omega)]
  refine lv_aload_n hx hb dX1_join_222 rfl (lv_at hl 0 rfl) ?_
  refine va_get (D := (dC, dI)) (ci := 1) (v := .ref (rA 6)) (C := RX1) (T := TX1) (N := 10) hx hb hts (fun w h => woX1_join w (inX1 w h)) hown hK hP 0 rfl rfl 6 (by decide) (hts _ (woX1_join _ wd_116)) (fun _ h9 => h9) rfl dX1_join_223 ?_
  refine lv_iload hx hb dX1_join_226 (lv_at hl 2 rfl) ?_
  refine va_lald hx hb hK hP 6 1 rfl rfl (vp_in_nI (by omega) (by omega)) dX1_join_228 ?_
  rw [show (nI gone).toNatClampNeg = gone from nI_clamp (by omega)]
  refine lv_lor hx hb dX1_join_229 ?_
  refine va_last hx hb hK hP hD hS 6 1 rfl rfl (vp_in_nI (by omega) (by omega)) dX1_join_230 (fun H locs hP hD hS => ?_)
  rw [show (nI kept).toNatClampNeg = kept from nI_clamp (by omega)] at hP hD
  have hP : va_P (dC, dI) vwCl [(rA 0, .inr (1, [.ref (tA 0), .ref (rA 1), .ref (rA 2), .ref (rA 3), .ref (rA 4), .ref (rA 5), .ref (rA 6), .ref (rA 7), .long un, .int mi])), (rA 1, .inl (cI, 60, .inl (fun t => if jb (me gone) t = true then nI kept else nm t))), (rA 2, .inl (cJ, 60, .inr (.inl (vp_updL me kept ((me kept) ||| (me gone)))))), (rA 3, .inl (cJ, 60, .inr (.inl (vp_updL fu kept ((fu kept) ||| (fu gone)))))), (rA 4, .inl (cJ, 60, .inr (.inl (vp_updL su kept ((su kept) ||| (su gone)))))), (rA 5, .inl (cJ, 60, .inr (.inl (vp_updL tu kept ((tu kept) ||| (tu gone)))))), (rA 6, .inl (cJ, 60, .inr (.inl (vp_updL be kept ((be kept) ||| (be gone)))))), (rA 7, .inl (cI, 60, .inl bd)), (tA 0, .inr (2, [.ref (tA 1), .ref (tA 2), .ref (tA 3), .ref (tA 4), .ref (tA 5), .ref (tA 6), .ref (tA 7), .ref (tA 8), .long bu, .int ct]))] H := hP
  have hD : va_D A [(rA 0, .inr (1, [.ref (tA 0), .ref (rA 1), .ref (rA 2), .ref (rA 3), .ref (rA 4), .ref (rA 5), .ref (rA 6), .ref (rA 7), .long un, .int mi])), (rA 1, .inl (cI, 60, .inl (fun t => if jb (me gone) t = true then nI kept else nm t))), (rA 2, .inl (cJ, 60, .inr (.inl (vp_updL me kept ((me kept) ||| (me gone)))))), (rA 3, .inl (cJ, 60, .inr (.inl (vp_updL fu kept ((fu kept) ||| (fu gone)))))), (rA 4, .inl (cJ, 60, .inr (.inl (vp_updL su kept ((su kept) ||| (su gone)))))), (rA 5, .inl (cJ, 60, .inr (.inl (vp_updL tu kept ((tu kept) ||| (tu gone)))))), (rA 6, .inl (cJ, 60, .inr (.inl (vp_updL be kept ((be kept) ||| (be gone)))))), (rA 7, .inl (cI, 60, .inl bd)), (tA 0, .inr (2, [.ref (tA 1), .ref (tA 2), .ref (tA 3), .ref (tA 4), .ref (tA 5), .ref (tA 6), .ref (tA 7), .ref (tA 8), .long bu, .int ct]))] := hD
  refine lv_aload_n hx hb dX1_join_231 rfl (lv_at hl 0 rfl) ?_
  refine lv_dup hx hb dX1_join_232 rfl ?_
  refine va_get (D := (dC, dI)) (ci := 1) (v := .long un) (C := RX1) (T := TX1) (N := 10) hx hb hts (fun w h => woX1_join w (inX1 w h)) hown hK hP 0 rfl rfl 8 (by decide) (hts _ (woX1_join _ wd_118)) (fun _ h9 => h9) rfl dX1_join_233 ?_
  refine lv_aload_n hx hb dX1_join_236 rfl (lv_at hl 0 rfl) ?_
  refine va_get (D := (dC, dI)) (ci := 1) (v := .ref (rA 3)) (C := RX1) (T := TX1) (N := 10) hx hb hts (fun w h => woX1_join w (inX1 w h)) hown hK hP 0 rfl rfl 3 (by decide) (hts _ (woX1_join _ wd_113)) (fun _ h9 => h9) rfl dX1_join_237 ?_
  refine lv_iload hx hb dX1_join_240 (lv_at hl 1 rfl) ?_
  refine va_lald hx hb hK hP 3 1 rfl rfl (vp_in_nI (by omega) (by omega)) dX1_join_242 ?_
  rw [show (nI kept).toNatClampNeg = kept from nI_clamp (by omega)]
  refine lv_aload_n hx hb dX1_join_243 rfl (lv_at hl 0 rfl) ?_
  refine va_get (D := (dC, dI)) (ci := 1) (v := .ref (rA 4)) (C := RX1) (T := TX1) (N := 10) hx hb hts (fun w h => woX1_join w (inX1 w h)) hown hK hP 0 rfl rfl 4 (by decide) (hts _ (woX1_join _ wd_114)) (fun _ h9 => h9) rfl dX1_join_244 ?_
  refine lv_iload hx hb dX1_join_247 (lv_at hl 1 rfl) ?_
  refine va_lald hx hb hK hP 4 1 rfl rfl (vp_in_nI (by omega) (by omega)) dX1_join_249 ?_
  rw [show (nI kept).toNatClampNeg = kept from nI_clamp (by omega)]
  refine lv_lor hx hb dX1_join_250 ?_
  refine lv_aload_n hx hb dX1_join_251 rfl (lv_at hl 0 rfl) ?_
  refine va_get (D := (dC, dI)) (ci := 1) (v := .ref (rA 5)) (C := RX1) (T := TX1) (N := 10) hx hb hts (fun w h => woX1_join w (inX1 w h)) hown hK hP 0 rfl rfl 5 (by decide) (hts _ (woX1_join _ wd_115)) (fun _ h9 => h9) rfl dX1_join_252 ?_
  refine lv_iload hx hb dX1_join_255 (lv_at hl 1 rfl) ?_
  refine va_lald hx hb hK hP 5 1 rfl rfl (vp_in_nI (by omega) (by omega)) dX1_join_257 ?_
  rw [show (nI kept).toNatClampNeg = kept from nI_clamp (by omega)]
  refine lv_lor hx hb dX1_join_258 ?_
  refine lv_aload_n hx hb dX1_join_259 rfl (lv_at hl 0 rfl) ?_
  refine va_get (D := (dC, dI)) (ci := 1) (v := .ref (rA 2)) (C := RX1) (T := TX1) (N := 10) hx hb hts (fun w h => woX1_join w (inX1 w h)) hown hK hP 0 rfl rfl 2 (by decide) (hts _ (woX1_join _ wd_111)) (fun _ h9 => h9) rfl dX1_join_260 ?_
  refine lv_iload hx hb dX1_join_263 (lv_at hl 1 rfl) ?_
  refine va_lald hx hb hK hP 2 1 rfl rfl (vp_in_nI (by omega) (by omega)) dX1_join_265 ?_
  rw [show (nI kept).toNatClampNeg = kept from nI_clamp (by omega)]
  refine lv_aload_n hx hb dX1_join_266 rfl (lv_at hl 0 rfl) ?_
  refine va_get (D := (dC, dI)) (ci := 1) (v := .ref (tA 0)) (C := RX1) (T := TX1) (N := 10) hx hb hts (fun w h => woX1_join w (inX1 w h)) hown hK hP 0 rfl rfl 0 (by decide) (hts _ (woX1_join _ wd_108)) (fun _ h9 => h9) rfl dX1_join_267 ?_
  refine va_get (D := (dC, dI)) (ci := 2) (v := .long bu) (C := RX2) (T := TX2) (N := 10) hx hb hts (fun w h => woX1_join w (inX2 w h)) hown hK hP 8 rfl rfl 8 (by decide) (hts _ (woX1_join _ wd_51)) (fun _ h9 => h9) rfl dX1_join_270 ?_
  refine lv_land hx hb dX1_join_273 ?_
  refine lv_lor hx hb dX1_join_274 ?_
  refine lv_lor hx hb dX1_join_275 ?_
  refine lv_topl (fun un2 eun2 => ?_)
  refine va_put (D := (dC, dI)) (ci := 1) (v := .long un2) (ty := .long) (C := RX1) (T := TX1) (N := 10) hx hb hts (fun w h => woX1_join w (inX1 w h)) tyX1 tyX1_ok nmX1 hown hK hP hD hS 0 rfl rfl 8 (by decide) (hts _ (woX1_join _ wd_118)) (fun _ h9 => h9) rfl (by decide +kernel) rfl rfl (Nat.le_of_ble_eq_true rfl) dX1_join_276 (fun H locs hP hD hS => ?_)
  have hP : va_P (dC, dI) vwCl [(rA 0, .inr (1, [.ref (tA 0), .ref (rA 1), .ref (rA 2), .ref (rA 3), .ref (rA 4), .ref (rA 5), .ref (rA 6), .ref (rA 7), .long un2, .int mi])), (rA 1, .inl (cI, 60, .inl (fun t => if jb (me gone) t = true then nI kept else nm t))), (rA 2, .inl (cJ, 60, .inr (.inl (vp_updL me kept ((me kept) ||| (me gone)))))), (rA 3, .inl (cJ, 60, .inr (.inl (vp_updL fu kept ((fu kept) ||| (fu gone)))))), (rA 4, .inl (cJ, 60, .inr (.inl (vp_updL su kept ((su kept) ||| (su gone)))))), (rA 5, .inl (cJ, 60, .inr (.inl (vp_updL tu kept ((tu kept) ||| (tu gone)))))), (rA 6, .inl (cJ, 60, .inr (.inl (vp_updL be kept ((be kept) ||| (be gone)))))), (rA 7, .inl (cI, 60, .inl bd)), (tA 0, .inr (2, [.ref (tA 1), .ref (tA 2), .ref (tA 3), .ref (tA 4), .ref (tA 5), .ref (tA 6), .ref (tA 7), .ref (tA 8), .long bu, .int ct]))] H := hP
  have hD : va_D A [(rA 0, .inr (1, [.ref (tA 0), .ref (rA 1), .ref (rA 2), .ref (rA 3), .ref (rA 4), .ref (rA 5), .ref (rA 6), .ref (rA 7), .long un2, .int mi])), (rA 1, .inl (cI, 60, .inl (fun t => if jb (me gone) t = true then nI kept else nm t))), (rA 2, .inl (cJ, 60, .inr (.inl (vp_updL me kept ((me kept) ||| (me gone)))))), (rA 3, .inl (cJ, 60, .inr (.inl (vp_updL fu kept ((fu kept) ||| (fu gone)))))), (rA 4, .inl (cJ, 60, .inr (.inl (vp_updL su kept ((su kept) ||| (su gone)))))), (rA 5, .inl (cJ, 60, .inr (.inl (vp_updL tu kept ((tu kept) ||| (tu gone)))))), (rA 6, .inl (cJ, 60, .inr (.inl (vp_updL be kept ((be kept) ||| (be gone)))))), (rA 7, .inl (cI, 60, .inl bd)), (tA 0, .inr (2, [.ref (tA 1), .ref (tA 2), .ref (tA 3), .ref (tA 4), .ref (tA 5), .ref (tA 6), .ref (tA 7), .ref (tA 8), .long bu, .int ct]))] := hD
  refine lv_aload_n hx hb dX1_join_279 rfl (lv_at hl 0 rfl) ?_
  refine lv_iload hx hb dX1_join_280 (lv_at hl 1 rfl) ?_
  refine lv_iload hx hb dX1_join_282 (lv_at hl 2 rfl) ?_
  have hPc := hP.sub (ws' := [(rA 0, .inr (1, [.ref (tA 0), .ref (rA 1), .ref (rA 2), .ref (rA 3), .ref (rA 4), .ref (rA 5), .ref (rA 6), .ref (rA 7), .long un2, .int mi])), (rA 7, .inl (cI, 60, .inl bd))]) [0, 7] rfl
  have hDc := hD.sub (ws' := [(rA 0, .inr (1, [.ref (tA 0), .ref (rA 1), .ref (rA 2), .ref (rA 3), .ref (rA 4), .ref (rA 5), .ref (rA 6), .ref (rA 7), .long un2, .int mi])), (rA 7, .inl (cI, 60, .inl bd))]) [0, 7] (by decide) rfl
  have hFc := va_free (wc := [(rA 0, .inr (1, [.ref (tA 0), .ref (rA 1), .ref (rA 2), .ref (rA 3), .ref (rA 4), .ref (rA 5), .ref (rA 6), .ref (rA 7), .long un2, .int mi])), (rA 7, .inl (cI, 60, .inl bd))]) hD hS hA [0, 7] rfl
  refine va_callv (va_runV (As := [.int (nI kept), .int (nI gone)]) (rest := []) ⟨hx, hb, hml, hown, hts⟩ (c_joinBuilders l dC dI cI cJ cZ rA tA bd un2 mi kept gone H.size hk hg) (cwV 2 hts (w0_goodV woX1_join wd_215 wd_212 wd_213 wd_214 wd_4) rfl rfl rfl (by decide +kernel) ⟨Nat.le_of_ble_eq_true rfl, Nat.le_of_ble_eq_true rfl⟩) ⟨fun a U g mk q => by obtain ⟨q0, q1, qP, qK, qD⟩ := q; exact ⟨q0, q1, qP, va_K.moved (u := U) (U := U.calling g mk a) (Vm.Alike.refl U.vm) qK, qD⟩, va_recv hK hP (ci := 1) (q0 := 0) rfl rfl, fun U hU hW => ⟨rfl, by rw [hU], by rw [hU]; exact hPc, va_K.moved hW.alike hK, hDc.weaken (fun _ _ _ _ => trivial)⟩⟩ rfl rfl hl.1 rfl (lv_room (Nat.le_of_ble_eq_true rfl)) dX1_join_284 ⟨Nat.zero_le _, Nat.zero_le _⟩) hS (fun q _ h => hFc q h) hFc (fun u t8 H1 locs ht8 hvm hu hB hz1 hk1 hS => ?_)
  obtain ⟨bd2_1, mi2_1⟩ := u
  obtain ⟨hP1, hK1, hD1⟩ := hB
  rw [ht8] at hP1
  try dsimp only at hu
  obtain ⟨hP, hD⟩ := va_join (wr := [(rA 1, .inl (cI, 60, .inl (fun t => if jb (me gone) t = true then nI kept else nm t))), (rA 2, .inl (cJ, 60, .inr (.inl (vp_updL me kept ((me kept) ||| (me gone)))))), (rA 3, .inl (cJ, 60, .inr (.inl (vp_updL fu kept ((fu kept) ||| (fu gone)))))), (rA 4, .inl (cJ, 60, .inr (.inl (vp_updL su kept ((su kept) ||| (su gone)))))), (rA 5, .inl (cJ, 60, .inr (.inl (vp_updL tu kept ((tu kept) ||| (tu gone)))))), (rA 6, .inl (cJ, 60, .inr (.inl (vp_updL be kept ((be kept) ||| (be gone)))))), (tA 0, .inr (2, [.ref (tA 1), .ref (tA 2), .ref (tA 3), .ref (tA 4), .ref (tA 5), .ref (tA 6), .ref (tA 7), .ref (tA 8), .long bu, .int ct]))]) (w1 := [(rA 0, .inr (1, [.ref (tA 0), .ref (rA 1), .ref (rA 2), .ref (rA 3), .ref (rA 4), .ref (rA 5), .ref (rA 6), .ref (rA 7), .long un2, .int mi2_1])), (rA 7, .inl (cI, 60, .inl bd2_1))]) hP hD [0, 7] [1, 2, 3, 4, 5, 6, 8] rfl rfl (by decide) (by decide) hk1 hFc hP1 hD1
  have hP := hP.sub (ws' := [(rA 0, .inr (1, [.ref (tA 0), .ref (rA 1), .ref (rA 2), .ref (rA 3), .ref (rA 4), .ref (rA 5), .ref (rA 6), .ref (rA 7), .long un2, .int mi2_1])), (rA 1, .inl (cI, 60, .inl (fun t => if jb (me gone) t = true then nI kept else nm t))), (rA 2, .inl (cJ, 60, .inr (.inl (vp_updL me kept ((me kept) ||| (me gone)))))), (rA 3, .inl (cJ, 60, .inr (.inl (vp_updL fu kept ((fu kept) ||| (fu gone)))))), (rA 4, .inl (cJ, 60, .inr (.inl (vp_updL su kept ((su kept) ||| (su gone)))))), (rA 5, .inl (cJ, 60, .inr (.inl (vp_updL tu kept ((tu kept) ||| (tu gone)))))), (rA 6, .inl (cJ, 60, .inr (.inl (vp_updL be kept ((be kept) ||| (be gone)))))), (rA 7, .inl (cI, 60, .inl bd2_1)), (tA 0, .inr (2, [.ref (tA 1), .ref (tA 2), .ref (tA 3), .ref (tA 4), .ref (tA 5), .ref (tA 6), .ref (tA 7), .ref (tA 8), .long bu, .int ct]))]) [7, 0, 1, 2, 3, 4, 5, 8, 6] rfl
  have hD := hD.sub (ws' := [(rA 0, .inr (1, [.ref (tA 0), .ref (rA 1), .ref (rA 2), .ref (rA 3), .ref (rA 4), .ref (rA 5), .ref (rA 6), .ref (rA 7), .long un2, .int mi2_1])), (rA 1, .inl (cI, 60, .inl (fun t => if jb (me gone) t = true then nI kept else nm t))), (rA 2, .inl (cJ, 60, .inr (.inl (vp_updL me kept ((me kept) ||| (me gone)))))), (rA 3, .inl (cJ, 60, .inr (.inl (vp_updL fu kept ((fu kept) ||| (fu gone)))))), (rA 4, .inl (cJ, 60, .inr (.inl (vp_updL su kept ((su kept) ||| (su gone)))))), (rA 5, .inl (cJ, 60, .inr (.inl (vp_updL tu kept ((tu kept) ||| (tu gone)))))), (rA 6, .inl (cJ, 60, .inr (.inl (vp_updL be kept ((be kept) ||| (be gone)))))), (rA 7, .inl (cI, 60, .inl bd2_1)), (tA 0, .inr (2, [.ref (tA 1), .ref (tA 2), .ref (tA 3), .ref (tA 4), .ref (tA 5), .ref (tA 6), .ref (tA 7), .ref (tA 8), .long bu, .int ct]))]) [7, 0, 1, 2, 3, 4, 5, 8, 6] (by decide) rfl
  generalize H1 = H at hP hS ⊢
  obtain ⟨ebd, emi⟩ := hu
  try dsimp only at ebd emi
  rw [ebd, emi, eun2] at hP hD
  exact kk _ _ _ hP hD hS

set_option maxHeartbeats 4000000 in
set_option maxRecDepth 100000 in
/-- join: two rows put together -/
theorem c_join (l : Launch) (dC : Nat → ClassId) (dI : Nat → Nat → Nat) (cI cJ cZ : ClassId) (T : mx_T) (nn : Nat → Nat) (rA : Nat → Nat) (tA : Nat → Nat) (nm : Nat → Int32) (me : Nat → Int64) (fu : Nat → Int64) (su : Nat → Int64) (tu : Nat → Int64) (be : Nat → Int64) (bd : Nat → Int32) (un : Int64) (mi : Int32) (bu : Int64) (ct : Int32) (qa : Option Nat) (qb : Option Nat) (sz : Nat) (hw : mx_wf T) (hn : mx_n T ≤ 60) (h : rk_ok T nn nm me fu su tu be bd mi) (hun : rk_un T un) (hbu : rk_bu T bu) (hqa : ∀ k, qa = some k → k < mx_n T) (hqb : ∀ k, qb = some k → k < mx_n T) : Met l yX1_join wsX1_join ({ frames := 2, cells := 0, slots := 0, locals := 43 }) (va_Pc [.ref (rA 0), .int (mx_enc qa), .int (mx_enc qb)] (fun U => U.heap.size = sz ∧ va_P (dC, dI) vwCl [(rA 0, .inr (1, [.ref (tA 0), .ref (rA 1), .ref (rA 2), .ref (rA 3), .ref (rA 4), .ref (rA 5), .ref (rA 6), .ref (rA 7), .long un, .int mi])), (rA 1, .inl (cI, 60, .inl nm)), (rA 2, .inl (cJ, 60, .inr (.inl me))), (rA 3, .inl (cJ, 60, .inr (.inl fu))), (rA 4, .inl (cJ, 60, .inr (.inl su))), (rA 5, .inl (cJ, 60, .inr (.inl tu))), (rA 6, .inl (cJ, 60, .inr (.inl be))), (rA 7, .inl (cI, 60, .inl bd)), (tA 0, .inr (2, [.ref (tA 1), .ref (tA 2), .ref (tA 3), .ref (tA 4), .ref (tA 5), .ref (tA 6), .ref (tA 7), .ref (tA 8), .long bu, .int ct]))] U.heap ∧ va_K (dC, dI) vwCl [(cI, .int), (cJ, .long), (cZ, .boolean)] U ∧ va_D (fun _ => True) [(rA 0, .inr (1, [.ref (tA 0), .ref (rA 1), .ref (rA 2), .ref (rA 3), .ref (rA 4), .ref (rA 5), .ref (rA 6), .ref (rA 7), .long un, .int mi])), (rA 1, .inl (cI, 60, .inl nm)), (rA 2, .inl (cJ, 60, .inr (.inl me))), (rA 3, .inl (cJ, 60, .inr (.inl fu))), (rA 4, .inl (cJ, 60, .inr (.inl su))), (rA 5, .inl (cJ, 60, .inr (.inl tu))), (rA 6, .inl (cJ, 60, .inr (.inl be))), (rA 7, .inl (cI, 60, .inl bd)), (tA 0, .inr (2, [.ref (tA 1), .ref (tA 2), .ref (tA 3), .ref (tA 4), .ref (tA 5), .ref (tA 6), .ref (tA 7), .ref (tA 8), .long bu, .int ct]))])) (va_Qv (jn_Q T nn un (fun x y => qa = some x ∧ qb = some y) (fun nn2 => ∀ x y, qa = some x → qb = some y → nn2 x = nn2 y)) (fun (u : (Nat → Int32) × (Nat → Int64) × (Nat → Int64) × (Nat → Int64) × (Nat → Int64) × (Nat → Int64) × (Nat → Int32) × Int64 × Int32) t => match u with | (nm2, me2, fu2, su2, tu2, be2, bd2, un2, mi2) => va_P (dC, dI) vwCl [(rA 0, .inr (1, [.ref (tA 0), .ref (rA 1), .ref (rA 2), .ref (rA 3), .ref (rA 4), .ref (rA 5), .ref (rA 6), .ref (rA 7), .long un2, .int mi2])), (rA 1, .inl (cI, 60, .inl nm2)), (rA 2, .inl (cJ, 60, .inr (.inl me2))), (rA 3, .inl (cJ, 60, .inr (.inl fu2))), (rA 4, .inl (cJ, 60, .inr (.inl su2))), (rA 5, .inl (cJ, 60, .inr (.inl tu2))), (rA 6, .inl (cJ, 60, .inr (.inl be2))), (rA 7, .inl (cI, 60, .inl bd2)), (tA 0, .inr (2, [.ref (tA 1), .ref (tA 2), .ref (tA 3), .ref (tA 4), .ref (tA 5), .ref (tA 6), .ref (tA 7), .ref (tA 8), .long bu, .int ct]))] t.heap ∧ va_K (dC, dI) vwCl [(cI, .int), (cJ, .long), (cZ, .boolean)] t ∧ va_D (va_A [(rA 0, .inr (1, [.ref (tA 0), .ref (rA 1), .ref (rA 2), .ref (rA 3), .ref (rA 4), .ref (rA 5), .ref (rA 6), .ref (rA 7), .long un, .int mi])), (rA 1, .inl (cI, 60, .inl nm)), (rA 2, .inl (cJ, 60, .inr (.inl me))), (rA 3, .inl (cJ, 60, .inr (.inl fu))), (rA 4, .inl (cJ, 60, .inr (.inl su))), (rA 5, .inl (cJ, 60, .inr (.inl tu))), (rA 6, .inl (cJ, 60, .inr (.inl be))), (rA 7, .inl (cI, 60, .inl bd)), (tA 0, .inr (2, [.ref (tA 1), .ref (tA 2), .ref (tA 3), .ref (tA 4), .ref (tA 5), .ref (tA 6), .ref (tA 7), .ref (tA 8), .long bu, .int ct]))] sz) [(rA 0, .inr (1, [.ref (tA 0), .ref (rA 1), .ref (rA 2), .ref (rA 3), .ref (rA 4), .ref (rA 5), .ref (rA 6), .ref (rA 7), .long un2, .int mi2])), (rA 1, .inl (cI, 60, .inl nm2)), (rA 2, .inl (cJ, 60, .inr (.inl me2))), (rA 3, .inl (cJ, 60, .inr (.inl fu2))), (rA 4, .inl (cJ, 60, .inr (.inl su2))), (rA 5, .inl (cJ, 60, .inr (.inl tu2))), (rA 6, .inl (cJ, 60, .inr (.inl be2))), (rA 7, .inl (cI, 60, .inl bd2)), (tA 0, .inr (2, [.ref (tA 1), .ref (tA 2), .ref (tA 3), .ref (tA 4), .ref (tA 5), .ref (tA 6), .ref (tA 7), .ref (tA 8), .long bu, .int ct]))]) (va_A [(rA 0, .inr (1, [.ref (tA 0), .ref (rA 1), .ref (rA 2), .ref (rA 3), .ref (rA 4), .ref (rA 5), .ref (rA 6), .ref (rA 7), .long un, .int mi])), (rA 1, .inl (cI, 60, .inl nm)), (rA 2, .inl (cJ, 60, .inr (.inl me))), (rA 3, .inl (cJ, 60, .inr (.inl fu))), (rA 4, .inl (cJ, 60, .inr (.inl su))), (rA 5, .inl (cJ, 60, .inr (.inl tu))), (rA 6, .inl (cJ, 60, .inr (.inl be))), (rA 7, .inl (cI, 60, .inl bd)), (tA 0, .inr (2, [.ref (tA 1), .ref (tA 2), .ref (tA 3), .ref (tA 4), .ref (tA 5), .ref (tA 6), .ref (tA 7), .ref (tA 8), .long bu, .int ct]))] sz)) 0 0 (va_A [(rA 0, .inr (1, [.ref (tA 0), .ref (rA 1), .ref (rA 2), .ref (rA 3), .ref (rA 4), .ref (rA 5), .ref (rA 6), .ref (rA 7), .long un, .int mi])), (rA 1, .inl (cI, 60, .inl nm)), (rA 2, .inl (cJ, 60, .inr (.inl me))), (rA 3, .inl (cJ, 60, .inr (.inl fu))), (rA 4, .inl (cJ, 60, .inr (.inl su))), (rA 5, .inl (cJ, 60, .inr (.inl tu))), (rA 6, .inl (cJ, 60, .inr (.inl be))), (rA 7, .inl (cI, 60, .inl bd)), (tA 0, .inr (2, [.ref (tA 1), .ref (tA 2), .ref (tA 3), .ref (tA 4), .ref (tA 5), .ref (tA 6), .ref (tA 7), .ref (tA 8), .long bu, .int ct]))] sz) := by
  refine Met.ofW (cc := cX1_join) (maxL := 9) (ret := none) (by decide) rfl ?_
  intro p e s m args below meth c s₁ B hml hv
  obtain ⟨rfl, hsz, hP, hK, hD0⟩ := hv
  have hx := B.exec
  have hb := B.bytes
  have hr := B.returns
  have hts := atoms_spec (ws := wsX1_join) B.pre
  have hown : s.vm.findClass RX1 = some m.cls := findClass_of_methodNamed B.named
  have hlocks := B.notSynchronized
  subst hsz
  have hD := hD0.self (sz := s.heap.size)
  generalize hAe : va_A [(rA 0, .inr (1, [.ref (tA 0), .ref (rA 1), .ref (rA 2), .ref (rA 3), .ref (rA 4), .ref (rA 5), .ref (rA 6), .ref (rA 7), .long un, .int mi])), (rA 1, .inl (cI, 60, .inl nm)), (rA 2, .inl (cJ, 60, .inr (.inl me))), (rA 3, .inl (cJ, 60, .inr (.inl fu))), (rA 4, .inl (cJ, 60, .inr (.inl su))), (rA 5, .inl (cJ, 60, .inr (.inl tu))), (rA 6, .inl (cJ, 60, .inr (.inl be))), (rA 7, .inl (cI, 60, .inl bd)), (tA 0, .inr (2, [.ref (tA 1), .ref (tA 2), .ref (tA 3), .ref (tA 4), .ref (tA 5), .ref (tA 6), .ref (tA 7), .ref (tA 8), .long bu, .int ct]))] s.heap.size = A at hD ⊢
  have hA : ∀ q : Nat, s.heap.size ≤ q → A q := fun q h => by rw [← hAe]; exact Or.inr h
  have hS : va_S A s.heap s.heap [] := va_S.rf
  have hP : va_P (dC, dI) vwCl [(rA 0, .inr (1, [.ref (tA 0), .ref (rA 1), .ref (rA 2), .ref (rA 3), .ref (rA 4), .ref (rA 5), .ref (rA 6), .ref (rA 7), .long un, .int mi])), (rA 1, .inl (cI, 60, .inl nm)), (rA 2, .inl (cJ, 60, .inr (.inl me))), (rA 3, .inl (cJ, 60, .inr (.inl fu))), (rA 4, .inl (cJ, 60, .inr (.inl su))), (rA 5, .inl (cJ, 60, .inr (.inl tu))), (rA 6, .inl (cJ, 60, .inr (.inl be))), (rA 7, .inl (cI, 60, .inl bd)), (tA 0, .inr (2, [.ref (tA 1), .ref (tA 2), .ref (tA 3), .ref (tA 4), .ref (tA 5), .ref (tA 6), .ref (tA 7), .ref (tA 8), .long bu, .int ct]))] s.heap := hP
  have hl := lv_entry ([.ref (rA 0), .int (mx_enc qa), .int (mx_enc qb)]) (n := 9) (Nat.le_of_ble_eq_true rfl)
  rw [lg_entry_eq]
  generalize (lg_sl ([.ref (rA 0), .int (mx_enc qa), .int (mx_enc qb)]) ++ List.replicate (9 - (lg_sl ([.ref (rA 0), .int (mx_enc qa), .int (mx_enc qb)])).length) Slot.unset).toArray = ls at hl ⊢
  have hl : lv_has ls 9 [(0, .ref (rA 0)), (1, .int (mx_enc qa)), (2, .int (mx_enc qb))] := hl
  obtain ⟨hnm, -⟩ := id h
  refine lv_iload_n hx hb dX1_join_0 rfl (lv_at hl 1 rfl) ?_
  refine lv_iconst (v := (-1)) hx hb dX1_join_1 (by decide) ?_
  refine lv_icmp_eq (tgt := 10) hx hb dX1_join_2 (by decide) (fun c1 => ?_) (fun c1 => ?_)
  · have z : qa = none := (mx_enc_m1 (fun k hk => Nat.lt_of_lt_of_le (hqa k hk) (by omega))).mp c1
    have hP9 := hP.sub (ws' := [(rA 0, .inr (1, [.ref (tA 0), .ref (rA 1), .ref (rA 2), .ref (rA 3), .ref (rA 4), .ref (rA 5), .ref (rA 6), .ref (rA 7), .long un, .int mi])), (rA 1, .inl (cI, 60, .inl nm)), (rA 2, .inl (cJ, 60, .inr (.inl me))), (rA 3, .inl (cJ, 60, .inr (.inl fu))), (rA 4, .inl (cJ, 60, .inr (.inl su))), (rA 5, .inl (cJ, 60, .inr (.inl tu))), (rA 6, .inl (cJ, 60, .inr (.inl be))), (rA 7, .inl (cI, 60, .inl bd)), (tA 0, .inr (2, [.ref (tA 1), .ref (tA 2), .ref (tA 3), .ref (tA 4), .ref (tA 5), .ref (tA 6), .ref (tA 7), .ref (tA 8), .long bu, .int ct]))]) [0, 1, 2, 3, 4, 5, 6, 7, 8] rfl
    have hD9 := hD.sub (ws' := [(rA 0, .inr (1, [.ref (tA 0), .ref (rA 1), .ref (rA 2), .ref (rA 3), .ref (rA 4), .ref (rA 5), .ref (rA 6), .ref (rA 7), .long un, .int mi])), (rA 1, .inl (cI, 60, .inl nm)), (rA 2, .inl (cJ, 60, .inr (.inl me))), (rA 3, .inl (cJ, 60, .inr (.inl fu))), (rA 4, .inl (cJ, 60, .inr (.inl su))), (rA 5, .inl (cJ, 60, .inr (.inl tu))), (rA 6, .inl (cJ, 60, .inr (.inl be))), (rA 7, .inl (cI, 60, .inl bd)), (tA 0, .inr (2, [.ref (tA 1), .ref (tA 2), .ref (tA 3), .ref (tA 4), .ref (tA 5), .ref (tA 6), .ref (tA 7), .ref (tA 8), .long bu, .int ct]))]) [0, 1, 2, 3, 4, 5, 6, 7, 8] (by decide) rfl
    exact W.vret hx hb hr (fun t9 ht9 hW9 => ⟨⟨(nm, me, fu, su, tu, be, bd, un, mi), rfl, ⟨nn, h, mx_step.rf hun, fun x y e1 e2 => by rw [z] at e1; cases e1⟩, by rw [ht9]; exact hP9, va_K.moved hW9.alike hK, hD9⟩, hS.F ht9⟩) hS.2.2 dX1_join_10
  · obtain ⟨x, rfl⟩ : ∃ k, qa = some k := by cases qa with | none => exact absurd rfl c1 | some k => exact ⟨k, rfl⟩
    have hlx := hqa x rfl
    have ex := hnm x hlx
    have hl : lv_has ls 9 [(0, .ref (rA 0)), (1, .int (nI x)), (2, .int (mx_enc qb))] := hl
    refine lv_iload_n hx hb dX1_join_5 rfl (lv_at hl 2 rfl) ?_
    refine lv_iconst (v := (-1)) hx hb dX1_join_6 (by decide) ?_
    refine lv_icmp_ne (tgt := 11) hx hb dX1_join_7 (by decide) (fun c2 => ?_) (fun c2 => ?_)
    · obtain ⟨y, rfl⟩ : ∃ k, qb = some k := by cases qb with | none => exact absurd rfl c2 | some k => exact ⟨k, rfl⟩
      have hly := hqb y rfl
      have ey := hnm y hly
      have hl : lv_has ls 9 [(0, .ref (rA 0)), (1, .int (nI x)), (2, .int (nI y))] := hl
      have hrow := h.2.choose_spec.choose_spec.1
      have hnx := hrow.1 x hlx
      have hny := hrow.1 y hly
      have hx60 : nn x < 60 := Nat.lt_of_lt_of_le hnx.1 hn
      have hy60 : nn y < 60 := Nat.lt_of_lt_of_le hny.1 hn
      have h60x : x < 60 := Nat.lt_of_lt_of_le hlx hn
      have h60y : y < 60 := Nat.lt_of_lt_of_le hly hn
      have hmx : ∀ i, jb (me (nn x)) i = true → i < 60 := fun i hi => Nat.lt_of_lt_of_le ((hrow.2.1 (nn x) hnx.1 hnx.2 i).mp hi).1 hn
      have hmy : ∀ i, jb (me (nn y)) i = true → i < 60 := fun i hi => Nat.lt_of_lt_of_le ((hrow.2.1 (nn y) hny.1 hny.2 i).mp hi).1 hn
      refine lv_aload_n hx hb dX1_join_11 rfl (lv_at hl 0 rfl) ?_
      refine va_get (D := (dC, dI)) (ci := 1) (v := .ref (rA 2)) (C := RX1) (T := TX1) (N := 10) hx hb hts (fun w h => woX1_join w (inX1 w h)) hown hK hP 0 rfl rfl 2 (by decide) (hts _ (woX1_join _ wd_111)) (fun _ h9 => h9) rfl dX1_join_12 ?_
      refine lv_aload_n hx hb dX1_join_15 rfl (lv_at hl 0 rfl) ?_
      refine va_get (D := (dC, dI)) (ci := 1) (v := .ref (rA 1)) (C := RX1) (T := TX1) (N := 10) hx hb hts (fun w h => woX1_join w (inX1 w h)) hown hK hP 0 rfl rfl 1 (by decide) (hts _ (woX1_join _ wd_109)) (fun _ h9 => h9) rfl dX1_join_16 ?_
      refine lv_iload_n hx hb dX1_join_19 rfl (lv_at hl 1 rfl) ?_
      refine va_iald hx hb hK hP 1 0 rfl rfl (vp_in_nI (by omega) (by omega)) dX1_join_20 ?_
      rw [show (nI x).toNatClampNeg = x from nI_clamp (by omega)]
      rw [ex]
      refine va_lald hx hb hK hP 2 1 rfl rfl (vp_in_nI (by omega) (by omega)) dX1_join_21 ?_
      rw [show (nI (nn x)).toNatClampNeg = (nn x) from nI_clamp (by omega)]
      refine vp_callSi (W.runS (As := [.long (me (nn x))]) (rest := []) ⟨hx, hb, hml, hown, hts⟩ (c_bitCount l (me (nn x))) (va_cwS 1 hts (w0_goodS woX1_join wd_165 wd_204 wd_164 wd_12) rfl rfl rfl (by decide +kernel) ⟨Nat.le_of_ble_eq_true rfl, Nat.le_of_ble_eq_true rfl⟩) ⟨fun a U g mk q => q, fun U hU hW => ⟨rfl, trivial⟩⟩ rfl rfl hl.1 rfl (lv_room (Nat.le_of_ble_eq_true rfl)) dX1_join_22 ⟨Nat.zero_le _, Nat.zero_le _⟩) (fun r1 er1 => ?_)
      refine lv_aload_n hx hb dX1_join_25 rfl (lv_at hl 0 rfl) ?_
      refine va_get (D := (dC, dI)) (ci := 1) (v := .ref (rA 2)) (C := RX1) (T := TX1) (N := 10) hx hb hts (fun w h => woX1_join w (inX1 w h)) hown hK hP 0 rfl rfl 2 (by decide) (hts _ (woX1_join _ wd_111)) (fun _ h9 => h9) rfl dX1_join_26 ?_
      refine lv_aload_n hx hb dX1_join_29 rfl (lv_at hl 0 rfl) ?_
      refine va_get (D := (dC, dI)) (ci := 1) (v := .ref (rA 1)) (C := RX1) (T := TX1) (N := 10) hx hb hts (fun w h => woX1_join w (inX1 w h)) hown hK hP 0 rfl rfl 1 (by decide) (hts _ (woX1_join _ wd_109)) (fun _ h9 => h9) rfl dX1_join_30 ?_
      refine lv_iload_n hx hb dX1_join_33 rfl (lv_at hl 2 rfl) ?_
      refine va_iald hx hb hK hP 1 0 rfl rfl (vp_in_nI (by omega) (by omega)) dX1_join_34 ?_
      rw [show (nI y).toNatClampNeg = y from nI_clamp (by omega)]
      rw [ey]
      refine va_lald hx hb hK hP 2 1 rfl rfl (vp_in_nI (by omega) (by omega)) dX1_join_35 ?_
      rw [show (nI (nn y)).toNatClampNeg = (nn y) from nI_clamp (by omega)]
      refine vp_callSi (W.runS (As := [.long (me (nn y))]) (rest := [.int r1]) ⟨hx, hb, hml, hown, hts⟩ (c_bitCount l (me (nn y))) (va_cwS 1 hts (w0_goodS woX1_join wd_165 wd_204 wd_164 wd_12) rfl rfl rfl (by decide +kernel) ⟨Nat.le_of_ble_eq_true rfl, Nat.le_of_ble_eq_true rfl⟩) ⟨fun a U g mk q => q, fun U hU hW => ⟨rfl, trivial⟩⟩ rfl rfl hl.1 rfl (lv_room (Nat.le_of_ble_eq_true rfl)) dX1_join_36 ⟨Nat.zero_le _, Nat.zero_le _⟩) (fun r2 er2 => ?_)
      refine lv_icmp_lt (tgt := 46) hx hb dX1_join_39 (by decide) (fun c3 => ?_) (fun c3 => ?_)
      · refine lv_iconst (v := 0) hx hb dX1_join_46 (by decide) ?_
        refine lv_istore_n (lv' := [(3, .int 0), (0, .ref (rA 0)), (1, .int (nI x)), (2, .int (nI y))]) hx hb dX1_join_47 rfl hl (by decide) rfl (fun ls hl => ?_)
        refine lv_iload_n hx hb dX1_join_48 rfl (lv_at hl 0 rfl) ?_
        refine lv_if_eq (tgt := 61) hx hb dX1_join_49 (by decide) (fun c4 => ?_) (fun c4 => ?_)
        · refine lv_aload_n hx hb dX1_join_61 rfl (lv_at hl 1 rfl) ?_
          refine va_get (D := (dC, dI)) (ci := 1) (v := .ref (rA 1)) (C := RX1) (T := TX1) (N := 10) hx hb hts (fun w h => woX1_join w (inX1 w h)) hown hK hP 0 rfl rfl 1 (by decide) (hts _ (woX1_join _ wd_109)) (fun _ h9 => h9) rfl dX1_join_62 ?_
          refine lv_iload_n hx hb dX1_join_65 rfl (lv_at hl 3 rfl) ?_
          refine va_iald hx hb hK hP 1 0 rfl rfl (vp_in_nI (by omega) (by omega)) dX1_join_66 ?_
          rw [show (nI y).toNatClampNeg = y from nI_clamp (by omega)]
          rw [ey]
          refine lv_istore (lv' := [(4, .int (nI (nn y))), (3, .int 0), (0, .ref (rA 0)), (1, .int (nI x)), (2, .int (nI y))]) hx hb dX1_join_67 hl (by decide) rfl (fun ls hl => ?_)
          refine lv_iload_n hx hb dX1_join_69 rfl (lv_at hl 1 rfl) ?_
          refine lv_if_eq (tgt := 82) hx hb dX1_join_70 (by decide) (fun c5 => ?_) (fun c5 => ?_)
          · refine lv_aload_n hx hb dX1_join_82 rfl (lv_at hl 2 rfl) ?_
            refine va_get (D := (dC, dI)) (ci := 1) (v := .ref (rA 1)) (C := RX1) (T := TX1) (N := 10) hx hb hts (fun w h => woX1_join w (inX1 w h)) hown hK hP 0 rfl rfl 1 (by decide) (hts _ (woX1_join _ wd_109)) (fun _ h9 => h9) rfl dX1_join_83 ?_
            refine lv_iload_n hx hb dX1_join_86 rfl (lv_at hl 3 rfl) ?_
            refine va_iald hx hb hK hP 1 0 rfl rfl (vp_in_nI (by omega) (by omega)) dX1_join_87 ?_
            rw [show (nI x).toNatClampNeg = x from nI_clamp (by omega)]
            rw [ex]
            refine lv_istore (lv' := [(5, .int (nI (nn x))), (4, .int (nI (nn y))), (3, .int 0), (0, .ref (rA 0)), (1, .int (nI x)), (2, .int (nI y))]) hx hb dX1_join_88 hl (by decide) rfl (fun ls hl => ?_)
            refine lv_iload hx hb dX1_join_90 (lv_at hl 1 rfl) ?_
            refine lv_iload hx hb dX1_join_92 (lv_at hl 0 rfl) ?_
            refine lv_icmp_ne (tgt := 98) hx hb dX1_join_94 (by decide) (fun c6 => ?_) (fun c6 => ?_)
            · have hne : nn y ≠ nn x := fun q => c6 (by rw [q])
              obtain ⟨nn2, k1, k2, k3⟩ := rk_join hw hn h hun hbu hlx hly (kept := nn y) (gone := nn x) (Or.inr ⟨rfl, rfl⟩) hne rfl
              refine jn_98 hx hb hown hts hK hy60 hx60 hmx hA hP hD hS hml (lv_sub hl [3, 1, 0] rfl) (fun H locs ls hP hD hS => ?_)
              have hP9 := hP.sub (ws' := [(rA 0, .inr (1, [.ref (tA 0), .ref (rA 1), .ref (rA 2), .ref (rA 3), .ref (rA 4), .ref (rA 5), .ref (rA 6), .ref (rA 7), .long (un ||| ((((vp_updL fu (nn y) (fu (nn y) ||| fu (nn x))) (nn y) ||| (vp_updL su (nn y) (su (nn y) ||| su (nn x))) (nn y)) ||| (vp_updL tu (nn y) (tu (nn y) ||| tu (nn x))) (nn y)) ||| ((vp_updL me (nn y) (me (nn y) ||| me (nn x))) (nn y) &&& bu))), .int (jb_mi bd mi (nn y) (nn x))])), (rA 1, .inl (cI, 60, .inl (fun t => if jb (me (nn x)) t = true then nI (nn y) else nm t))), (rA 2, .inl (cJ, 60, .inr (.inl (vp_updL me (nn y) (me (nn y) ||| me (nn x)))))), (rA 3, .inl (cJ, 60, .inr (.inl (vp_updL fu (nn y) (fu (nn y) ||| fu (nn x)))))), (rA 4, .inl (cJ, 60, .inr (.inl (vp_updL su (nn y) (su (nn y) ||| su (nn x)))))), (rA 5, .inl (cJ, 60, .inr (.inl (vp_updL tu (nn y) (tu (nn y) ||| tu (nn x)))))), (rA 6, .inl (cJ, 60, .inr (.inl (vp_updL be (nn y) (be (nn y) ||| be (nn x)))))), (rA 7, .inl (cI, 60, .inl (jb_bd bd (nn y) (nn x)))), (tA 0, .inr (2, [.ref (tA 1), .ref (tA 2), .ref (tA 3), .ref (tA 4), .ref (tA 5), .ref (tA 6), .ref (tA 7), .ref (tA 8), .long bu, .int ct]))]) [0, 1, 2, 3, 4, 5, 6, 7, 8] rfl
              have hD9 := hD.sub (ws' := [(rA 0, .inr (1, [.ref (tA 0), .ref (rA 1), .ref (rA 2), .ref (rA 3), .ref (rA 4), .ref (rA 5), .ref (rA 6), .ref (rA 7), .long (un ||| ((((vp_updL fu (nn y) (fu (nn y) ||| fu (nn x))) (nn y) ||| (vp_updL su (nn y) (su (nn y) ||| su (nn x))) (nn y)) ||| (vp_updL tu (nn y) (tu (nn y) ||| tu (nn x))) (nn y)) ||| ((vp_updL me (nn y) (me (nn y) ||| me (nn x))) (nn y) &&& bu))), .int (jb_mi bd mi (nn y) (nn x))])), (rA 1, .inl (cI, 60, .inl (fun t => if jb (me (nn x)) t = true then nI (nn y) else nm t))), (rA 2, .inl (cJ, 60, .inr (.inl (vp_updL me (nn y) (me (nn y) ||| me (nn x)))))), (rA 3, .inl (cJ, 60, .inr (.inl (vp_updL fu (nn y) (fu (nn y) ||| fu (nn x)))))), (rA 4, .inl (cJ, 60, .inr (.inl (vp_updL su (nn y) (su (nn y) ||| su (nn x)))))), (rA 5, .inl (cJ, 60, .inr (.inl (vp_updL tu (nn y) (tu (nn y) ||| tu (nn x)))))), (rA 6, .inl (cJ, 60, .inr (.inl (vp_updL be (nn y) (be (nn y) ||| be (nn x)))))), (rA 7, .inl (cI, 60, .inl (jb_bd bd (nn y) (nn x)))), (tA 0, .inr (2, [.ref (tA 1), .ref (tA 2), .ref (tA 3), .ref (tA 4), .ref (tA 5), .ref (tA 6), .ref (tA 7), .ref (tA 8), .long bu, .int ct]))]) [0, 1, 2, 3, 4, 5, 6, 7, 8] (by decide) rfl
              exact W.vret hx hb hr (fun t9 ht9 hW9 => ⟨⟨(fun t => if jb (me (nn x)) t = true then nI (nn y) else nm t, vp_updL me (nn y) (me (nn y) ||| me (nn x)), vp_updL fu (nn y) (fu (nn y) ||| fu (nn x)), vp_updL su (nn y) (su (nn y) ||| su (nn x)), vp_updL tu (nn y) (tu (nn y) ||| tu (nn x)), vp_updL be (nn y) (be (nn y) ||| be (nn x)), jb_bd bd (nn y) (nn x), un ||| ((((vp_updL fu (nn y) (fu (nn y) ||| fu (nn x))) (nn y) ||| (vp_updL su (nn y) (su (nn y) ||| su (nn x))) (nn y)) ||| (vp_updL tu (nn y) (tu (nn y) ||| tu (nn x))) (nn y)) ||| ((vp_updL me (nn y) (me (nn y) ||| me (nn x))) (nn y) &&& bu)), jb_mi bd mi (nn y) (nn x)), rfl, ⟨nn2, k1, k2.of (fun R _ _ hE x0 y0 q => by obtain ⟨rfl, rfl⟩ := q; exact hE _ _ ⟨rfl, rfl⟩), fun x0 y0 e1 e2 => by cases e1; cases e2; exact k3⟩, by rw [ht9]; exact hP9, va_K.moved hW9.alike hK, hD9⟩, hS.F ht9⟩) hS.2.2 dX1_join_287
            · have heq : nn x = nn y := ((nI_eq (by omega) (by omega)).mp c6).symm
              have hP9 := hP.sub (ws' := [(rA 0, .inr (1, [.ref (tA 0), .ref (rA 1), .ref (rA 2), .ref (rA 3), .ref (rA 4), .ref (rA 5), .ref (rA 6), .ref (rA 7), .long un, .int mi])), (rA 1, .inl (cI, 60, .inl nm)), (rA 2, .inl (cJ, 60, .inr (.inl me))), (rA 3, .inl (cJ, 60, .inr (.inl fu))), (rA 4, .inl (cJ, 60, .inr (.inl su))), (rA 5, .inl (cJ, 60, .inr (.inl tu))), (rA 6, .inl (cJ, 60, .inr (.inl be))), (rA 7, .inl (cI, 60, .inl bd)), (tA 0, .inr (2, [.ref (tA 1), .ref (tA 2), .ref (tA 3), .ref (tA 4), .ref (tA 5), .ref (tA 6), .ref (tA 7), .ref (tA 8), .long bu, .int ct]))]) [0, 1, 2, 3, 4, 5, 6, 7, 8] rfl
              have hD9 := hD.sub (ws' := [(rA 0, .inr (1, [.ref (tA 0), .ref (rA 1), .ref (rA 2), .ref (rA 3), .ref (rA 4), .ref (rA 5), .ref (rA 6), .ref (rA 7), .long un, .int mi])), (rA 1, .inl (cI, 60, .inl nm)), (rA 2, .inl (cJ, 60, .inr (.inl me))), (rA 3, .inl (cJ, 60, .inr (.inl fu))), (rA 4, .inl (cJ, 60, .inr (.inl su))), (rA 5, .inl (cJ, 60, .inr (.inl tu))), (rA 6, .inl (cJ, 60, .inr (.inl be))), (rA 7, .inl (cI, 60, .inl bd)), (tA 0, .inr (2, [.ref (tA 1), .ref (tA 2), .ref (tA 3), .ref (tA 4), .ref (tA 5), .ref (tA 6), .ref (tA 7), .ref (tA 8), .long bu, .int ct]))]) [0, 1, 2, 3, 4, 5, 6, 7, 8] (by decide) rfl
              exact W.vret hx hb hr (fun t9 ht9 hW9 => ⟨⟨(nm, me, fu, su, tu, be, bd, un, mi), rfl, ⟨nn, h, mx_step.rf hun, fun x0 y0 e1 e2 => by cases e1; cases e2; exact heq⟩, by rw [ht9]; exact hP9, va_K.moved hW9.alike hK, hD9⟩, hS.F ht9⟩) hS.2.2 dX1_join_97
          · exact absurd rfl c5
        · exact absurd rfl c4
      · refine lv_iconst (v := 1) hx hb dX1_join_42 (by decide) ?_
        refine lv_goto (tgt := 47) hx hb dX1_join_43 (by decide) ?_
        refine lv_istore_n (lv' := [(3, .int 1), (0, .ref (rA 0)), (1, .int (nI x)), (2, .int (nI y))]) hx hb dX1_join_47 rfl hl (by decide) rfl (fun ls hl => ?_)
        refine lv_iload_n hx hb dX1_join_48 rfl (lv_at hl 0 rfl) ?_
        refine lv_if_eq (tgt := 61) hx hb dX1_join_49 (by decide) (fun c4 => ?_) (fun c4 => ?_)
        · exact absurd c4 (by decide)
        · refine lv_aload_n hx hb dX1_join_52 rfl (lv_at hl 1 rfl) ?_
          refine va_get (D := (dC, dI)) (ci := 1) (v := .ref (rA 1)) (C := RX1) (T := TX1) (N := 10) hx hb hts (fun w h => woX1_join w (inX1 w h)) hown hK hP 0 rfl rfl 1 (by decide) (hts _ (woX1_join _ wd_109)) (fun _ h9 => h9) rfl dX1_join_53 ?_
          refine lv_iload_n hx hb dX1_join_56 rfl (lv_at hl 2 rfl) ?_
          refine va_iald hx hb hK hP 1 0 rfl rfl (vp_in_nI (by omega) (by omega)) dX1_join_57 ?_
          rw [show (nI x).toNatClampNeg = x from nI_clamp (by omega)]
          rw [ex]
          refine lv_goto (tgt := 67) hx hb dX1_join_58 (by decide) ?_
          refine lv_istore (lv' := [(4, .int (nI (nn x))), (3, .int 1), (0, .ref (rA 0)), (1, .int (nI x)), (2, .int (nI y))]) hx hb dX1_join_67 hl (by decide) rfl (fun ls hl => ?_)
          refine lv_iload_n hx hb dX1_join_69 rfl (lv_at hl 1 rfl) ?_
          refine lv_if_eq (tgt := 82) hx hb dX1_join_70 (by decide) (fun c5 => ?_) (fun c5 => ?_)
          · exact absurd c5 (by decide)
          · refine lv_aload_n hx hb dX1_join_73 rfl (lv_at hl 2 rfl) ?_
            refine va_get (D := (dC, dI)) (ci := 1) (v := .ref (rA 1)) (C := RX1) (T := TX1) (N := 10) hx hb hts (fun w h => woX1_join w (inX1 w h)) hown hK hP 0 rfl rfl 1 (by decide) (hts _ (woX1_join _ wd_109)) (fun _ h9 => h9) rfl dX1_join_74 ?_
            refine lv_iload_n hx hb dX1_join_77 rfl (lv_at hl 4 rfl) ?_
            refine va_iald hx hb hK hP 1 0 rfl rfl (vp_in_nI (by omega) (by omega)) dX1_join_78 ?_
            rw [show (nI y).toNatClampNeg = y from nI_clamp (by omega)]
            rw [ey]
            refine lv_goto (tgt := 88) hx hb dX1_join_79 (by decide) ?_
            refine lv_istore (lv' := [(5, .int (nI (nn y))), (4, .int (nI (nn x))), (3, .int 1), (0, .ref (rA 0)), (1, .int (nI x)), (2, .int (nI y))]) hx hb dX1_join_88 hl (by decide) rfl (fun ls hl => ?_)
            refine lv_iload hx hb dX1_join_90 (lv_at hl 1 rfl) ?_
            refine lv_iload hx hb dX1_join_92 (lv_at hl 0 rfl) ?_
            refine lv_icmp_ne (tgt := 98) hx hb dX1_join_94 (by decide) (fun c6 => ?_) (fun c6 => ?_)
            · have hne : nn x ≠ nn y := fun q => c6 (by rw [q])
              obtain ⟨nn2, k1, k2, k3⟩ := rk_join hw hn h hun hbu hlx hly (kept := nn x) (gone := nn y) (Or.inl ⟨rfl, rfl⟩) hne rfl
              refine jn_98 hx hb hown hts hK hx60 hy60 hmy hA hP hD hS hml (lv_sub hl [3, 1, 0] rfl) (fun H locs ls hP hD hS => ?_)
              have hP9 := hP.sub (ws' := [(rA 0, .inr (1, [.ref (tA 0), .ref (rA 1), .ref (rA 2), .ref (rA 3), .ref (rA 4), .ref (rA 5), .ref (rA 6), .ref (rA 7), .long (un ||| ((((vp_updL fu (nn x) (fu (nn x) ||| fu (nn y))) (nn x) ||| (vp_updL su (nn x) (su (nn x) ||| su (nn y))) (nn x)) ||| (vp_updL tu (nn x) (tu (nn x) ||| tu (nn y))) (nn x)) ||| ((vp_updL me (nn x) (me (nn x) ||| me (nn y))) (nn x) &&& bu))), .int (jb_mi bd mi (nn x) (nn y))])), (rA 1, .inl (cI, 60, .inl (fun t => if jb (me (nn y)) t = true then nI (nn x) else nm t))), (rA 2, .inl (cJ, 60, .inr (.inl (vp_updL me (nn x) (me (nn x) ||| me (nn y)))))), (rA 3, .inl (cJ, 60, .inr (.inl (vp_updL fu (nn x) (fu (nn x) ||| fu (nn y)))))), (rA 4, .inl (cJ, 60, .inr (.inl (vp_updL su (nn x) (su (nn x) ||| su (nn y)))))), (rA 5, .inl (cJ, 60, .inr (.inl (vp_updL tu (nn x) (tu (nn x) ||| tu (nn y)))))), (rA 6, .inl (cJ, 60, .inr (.inl (vp_updL be (nn x) (be (nn x) ||| be (nn y)))))), (rA 7, .inl (cI, 60, .inl (jb_bd bd (nn x) (nn y)))), (tA 0, .inr (2, [.ref (tA 1), .ref (tA 2), .ref (tA 3), .ref (tA 4), .ref (tA 5), .ref (tA 6), .ref (tA 7), .ref (tA 8), .long bu, .int ct]))]) [0, 1, 2, 3, 4, 5, 6, 7, 8] rfl
              have hD9 := hD.sub (ws' := [(rA 0, .inr (1, [.ref (tA 0), .ref (rA 1), .ref (rA 2), .ref (rA 3), .ref (rA 4), .ref (rA 5), .ref (rA 6), .ref (rA 7), .long (un ||| ((((vp_updL fu (nn x) (fu (nn x) ||| fu (nn y))) (nn x) ||| (vp_updL su (nn x) (su (nn x) ||| su (nn y))) (nn x)) ||| (vp_updL tu (nn x) (tu (nn x) ||| tu (nn y))) (nn x)) ||| ((vp_updL me (nn x) (me (nn x) ||| me (nn y))) (nn x) &&& bu))), .int (jb_mi bd mi (nn x) (nn y))])), (rA 1, .inl (cI, 60, .inl (fun t => if jb (me (nn y)) t = true then nI (nn x) else nm t))), (rA 2, .inl (cJ, 60, .inr (.inl (vp_updL me (nn x) (me (nn x) ||| me (nn y)))))), (rA 3, .inl (cJ, 60, .inr (.inl (vp_updL fu (nn x) (fu (nn x) ||| fu (nn y)))))), (rA 4, .inl (cJ, 60, .inr (.inl (vp_updL su (nn x) (su (nn x) ||| su (nn y)))))), (rA 5, .inl (cJ, 60, .inr (.inl (vp_updL tu (nn x) (tu (nn x) ||| tu (nn y)))))), (rA 6, .inl (cJ, 60, .inr (.inl (vp_updL be (nn x) (be (nn x) ||| be (nn y)))))), (rA 7, .inl (cI, 60, .inl (jb_bd bd (nn x) (nn y)))), (tA 0, .inr (2, [.ref (tA 1), .ref (tA 2), .ref (tA 3), .ref (tA 4), .ref (tA 5), .ref (tA 6), .ref (tA 7), .ref (tA 8), .long bu, .int ct]))]) [0, 1, 2, 3, 4, 5, 6, 7, 8] (by decide) rfl
              exact W.vret hx hb hr (fun t9 ht9 hW9 => ⟨⟨(fun t => if jb (me (nn y)) t = true then nI (nn x) else nm t, vp_updL me (nn x) (me (nn x) ||| me (nn y)), vp_updL fu (nn x) (fu (nn x) ||| fu (nn y)), vp_updL su (nn x) (su (nn x) ||| su (nn y)), vp_updL tu (nn x) (tu (nn x) ||| tu (nn y)), vp_updL be (nn x) (be (nn x) ||| be (nn y)), jb_bd bd (nn x) (nn y), un ||| ((((vp_updL fu (nn x) (fu (nn x) ||| fu (nn y))) (nn x) ||| (vp_updL su (nn x) (su (nn x) ||| su (nn y))) (nn x)) ||| (vp_updL tu (nn x) (tu (nn x) ||| tu (nn y))) (nn x)) ||| ((vp_updL me (nn x) (me (nn x) ||| me (nn y))) (nn x) &&& bu)), jb_mi bd mi (nn x) (nn y)), rfl, ⟨nn2, k1, k2.of (fun R _ _ hE x0 y0 q => by obtain ⟨rfl, rfl⟩ := q; exact hE _ _ ⟨rfl, rfl⟩), fun x0 y0 e1 e2 => by cases e1; cases e2; exact k3⟩, by rw [ht9]; exact hP9, va_K.moved hW9.alike hK, hD9⟩, hS.F ht9⟩) hS.2.2 dX1_join_287
            · have heq : nn x = nn y := (nI_eq (by omega) (by omega)).mp c6
              have hP9 := hP.sub (ws' := [(rA 0, .inr (1, [.ref (tA 0), .ref (rA 1), .ref (rA 2), .ref (rA 3), .ref (rA 4), .ref (rA 5), .ref (rA 6), .ref (rA 7), .long un, .int mi])), (rA 1, .inl (cI, 60, .inl nm)), (rA 2, .inl (cJ, 60, .inr (.inl me))), (rA 3, .inl (cJ, 60, .inr (.inl fu))), (rA 4, .inl (cJ, 60, .inr (.inl su))), (rA 5, .inl (cJ, 60, .inr (.inl tu))), (rA 6, .inl (cJ, 60, .inr (.inl be))), (rA 7, .inl (cI, 60, .inl bd)), (tA 0, .inr (2, [.ref (tA 1), .ref (tA 2), .ref (tA 3), .ref (tA 4), .ref (tA 5), .ref (tA 6), .ref (tA 7), .ref (tA 8), .long bu, .int ct]))]) [0, 1, 2, 3, 4, 5, 6, 7, 8] rfl
              have hD9 := hD.sub (ws' := [(rA 0, .inr (1, [.ref (tA 0), .ref (rA 1), .ref (rA 2), .ref (rA 3), .ref (rA 4), .ref (rA 5), .ref (rA 6), .ref (rA 7), .long un, .int mi])), (rA 1, .inl (cI, 60, .inl nm)), (rA 2, .inl (cJ, 60, .inr (.inl me))), (rA 3, .inl (cJ, 60, .inr (.inl fu))), (rA 4, .inl (cJ, 60, .inr (.inl su))), (rA 5, .inl (cJ, 60, .inr (.inl tu))), (rA 6, .inl (cJ, 60, .inr (.inl be))), (rA 7, .inl (cI, 60, .inl bd)), (tA 0, .inr (2, [.ref (tA 1), .ref (tA 2), .ref (tA 3), .ref (tA 4), .ref (tA 5), .ref (tA 6), .ref (tA 7), .ref (tA 8), .long bu, .int ct]))]) [0, 1, 2, 3, 4, 5, 6, 7, 8] (by decide) rfl
              exact W.vret hx hb hr (fun t9 ht9 hW9 => ⟨⟨(nm, me, fu, su, tu, be, bd, un, mi), rfl, ⟨nn, h, mx_step.rf hun, fun x0 y0 e1 e2 => by cases e1; cases e2; exact heq⟩, by rw [ht9]; exact hP9, va_K.moved hW9.alike hK, hD9⟩, hS.F ht9⟩) hS.2.2 dX1_join_97
    · have z : qb = none := (mx_enc_m1 (fun k hk => Nat.lt_of_lt_of_le (hqb k hk) (by omega))).mp c2
      have hP9 := hP.sub (ws' := [(rA 0, .inr (1, [.ref (tA 0), .ref (rA 1), .ref (rA 2), .ref (rA 3), .ref (rA 4), .ref (rA 5), .ref (rA 6), .ref (rA 7), .long un, .int mi])), (rA 1, .inl (cI, 60, .inl nm)), (rA 2, .inl (cJ, 60, .inr (.inl me))), (rA 3, .inl (cJ, 60, .inr (.inl fu))), (rA 4, .inl (cJ, 60, .inr (.inl su))), (rA 5, .inl (cJ, 60, .inr (.inl tu))), (rA 6, .inl (cJ, 60, .inr (.inl be))), (rA 7, .inl (cI, 60, .inl bd)), (tA 0, .inr (2, [.ref (tA 1), .ref (tA 2), .ref (tA 3), .ref (tA 4), .ref (tA 5), .ref (tA 6), .ref (tA 7), .ref (tA 8), .long bu, .int ct]))]) [0, 1, 2, 3, 4, 5, 6, 7, 8] rfl
      have hD9 := hD.sub (ws' := [(rA 0, .inr (1, [.ref (tA 0), .ref (rA 1), .ref (rA 2), .ref (rA 3), .ref (rA 4), .ref (rA 5), .ref (rA 6), .ref (rA 7), .long un, .int mi])), (rA 1, .inl (cI, 60, .inl nm)), (rA 2, .inl (cJ, 60, .inr (.inl me))), (rA 3, .inl (cJ, 60, .inr (.inl fu))), (rA 4, .inl (cJ, 60, .inr (.inl su))), (rA 5, .inl (cJ, 60, .inr (.inl tu))), (rA 6, .inl (cJ, 60, .inr (.inl be))), (rA 7, .inl (cI, 60, .inl bd)), (tA 0, .inr (2, [.ref (tA 1), .ref (tA 2), .ref (tA 3), .ref (tA 4), .ref (tA 5), .ref (tA 6), .ref (tA 7), .ref (tA 8), .long bu, .int ct]))]) [0, 1, 2, 3, 4, 5, 6, 7, 8] (by decide) rfl
      exact W.vret hx hb hr (fun t9 ht9 hW9 => ⟨⟨(nm, me, fu, su, tu, be, bd, un, mi), rfl, ⟨nn, h, mx_step.rf hun, fun x y e1 e2 => by rw [z] at e2; cases e2⟩, by rw [ht9]; exact hP9, va_K.moved hW9.alike hK, hD9⟩, hS.F ht9⟩) hS.2.2 dX1_join_10
