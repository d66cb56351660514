/-! THE REFERENCE: terms, signs, facts -/
theorem ix3z (x : Nat) : (3 : Int32) * nI x = nI (3 * x) := by rw [show (3 : Int32) = nI 3 from rfl, pk_mul]
theorem ix3a (x : Nat) : nI (3 * x) + 1 = nI (3 * x + 1) := nI_1 _
theorem ix3b (x : Nat) : nI (3 * x) + 2 = nI (3 * x + 2) := by rw [show (2 : Int32) = nI 2 from rfl, nI_add]
def co_P (n : Nat) (a b c r : Int32) : Prop := (∃ qa qb qc, tp_ok n a b c qa qb qc ∧ r = nI (q_ar qa qb qc)) ∨ (r = 4 ∧ ¬ ∃ qa qb qc, tp_ok n a b c qa qb qc)
theorem co_a {n : Nat} {a b c : Int32} (h : ¬ a = -1) (h2 : ¬ ix n a) : ¬ ∃ qa qb qc, tp_ok n a b c qa qb qc := by
  rintro ⟨qa, qb, qc, ⟨e, -⟩ | ⟨x, hx, e, -⟩ | ⟨x, y, hx, -, e, -⟩ | ⟨x, y, z, hx, -, -, e, -⟩⟩
  · exact h e
  · exact h2 ⟨x, hx, e⟩
  · exact h2 ⟨x, hx, e⟩
  · exact h2 ⟨x, hx, e⟩
theorem co_b {n : Nat} {a b c : Int32} (h0 : ¬ a = -1) (h : ¬ b = -1) (h2 : ¬ ix n b) : ¬ ∃ qa qb qc, tp_ok n a b c qa qb qc := by
  rintro ⟨qa, qb, qc, ⟨e, -⟩ | ⟨x, -, -, -, e, -⟩ | ⟨x, y, -, hy, -, -, e, -⟩ | ⟨x, y, z, -, hy, -, -, -, e, -⟩⟩
  · exact h0 e
  · exact h e
  · exact h2 ⟨y, hy, e⟩
  · exact h2 ⟨y, hy, e⟩
theorem co_c {n : Nat} {a b c : Int32} (h0 : ¬ a = -1) (h1 : ¬ b = -1) (h : ¬ c = -1) (h2 : ¬ ix n c) : ¬ ∃ qa qb qc, tp_ok n a b c qa qb qc := by
  rintro ⟨qa, qb, qc, ⟨e, -⟩ | ⟨x, -, -, -, e, -⟩ | ⟨x, y, -, -, -, -, -, -, e, -⟩ | ⟨x, y, z, -, -, hz, -, -, -, -, e, -⟩⟩
  · exact h0 e
  · exact h1 e
  · exact h e
  · exact h2 ⟨z, hz, e⟩
theorem te_none {bs : Nat → Bool} {T : mx_T} {s a b c r : Int32} (h : ¬ ix 16 s) : te_P bs T s a b c 1 r T := Or.inl ⟨rfl, rfl, fun q => h q.1⟩
/-- how standing goes: what stands is marked, and closed from j on -/
def sd_I (T : mx_T) (t j : Nat) (sd : Nat → Int32) (many : Int32) : Prop := (∀ u, u < 60 → sd u = 0 ∨ sd u = 1) ∧ sd t = 1 ∧ (∀ u, u < 60 → sd u = 1 → mx_sub (mx_pl T) t u) ∧ (∀ x i k, j ≤ x → x < 60 → sd x = 1 → i < 3 → mx_pl T i x = some k → sd k = 1) ∧ many = nI (mx_cnt (fun i => decide (j ≤ i) && decide (sd i = 1)) (mx_n T))
theorem sd_sub_le {T : mx_T} (hw : mx_wf T) {t u : Nat} (ht : t < mx_n T) (h : mx_sub (mx_pl T) t u) : u ≤ t := mx_sub_lt (n := mx_n T) (fun t j k h1 h2 => hw.1 t j k h1 h2) ht h
theorem sd_0 {T : mx_T} (hw : mx_wf T) (hn : mx_n T ≤ 60) {t : Nat} (ht : t < mx_n T) {sd : Nat → Int32} (h : ∀ u, u < 60 → sd u = if u = t then 1 else 0) : sd_I T t (t + 1) sd 0 := by
  have h1 : ∀ u, u < 60 → sd u = 1 → u = t := fun u hu q => by
    rw [h u hu] at q
    by_cases z : u = t
    · exact z
    · rw [if_neg z] at q; exact absurd q (by decide)
  refine ⟨fun u hu => ?_, by rw [h t (by omega), if_pos rfl], fun u hu q => by rw [h1 u hu q]; exact mx_sub_rf _ _, fun x i k h2 h3 h4 => ?_, ?_⟩
  · rw [h u hu]; by_cases z : u = t
    · exact Or.inr (if_pos z)
    · exact Or.inl (if_neg z)
  · have := h1 x h3 h4; omega
  · rw [mx_cnt_0 (fun i hi => ?_)]
    · rfl
    · by_cases z : sd i = 1
      · have := h1 i (by omega) z
        simp [show ¬ t + 1 ≤ i by omega]
      · simp [z]
theorem sd_skip {T : mx_T} (hn : mx_n T ≤ 60) {t d : Nat} (hd : d < mx_n T) {sd : Nat → Int32} {many : Int32} (h : sd_I T t (d + 1) sd many) (q : ¬ sd d = 1) : sd_I T t d sd many := by
  obtain ⟨a1, a2, a3, a4, a5⟩ := h
  refine ⟨a1, a2, a3, fun x i k h1 h2 h3 => ?_, ?_⟩
  · by_cases z : x = d
    · subst z; exact absurd h3 q
    · exact a4 x i k (by omega) h2 h3
  · rw [a5, cf_s (p := fun i => decide (sd i = 1)) hd]
    simp [q]
/-- while the places of d are marked: i of them are -/
def sd_J (T : mx_T) (t d i : Nat) (sd : Nat → Int32) (many : Int32) : Prop := (∀ u, u < 60 → sd u = 0 ∨ sd u = 1) ∧ sd t = 1 ∧ sd d = 1 ∧ (∀ u, u < 60 → sd u = 1 → mx_sub (mx_pl T) t u) ∧ (∀ x j k, d + 1 ≤ x → x < 60 → sd x = 1 → j < 3 → mx_pl T j x = some k → sd k = 1) ∧ (∀ j k, j < i → mx_pl T j d = some k → sd k = 1) ∧ many = nI (mx_cnt (fun i => decide (d ≤ i) && decide (sd i = 1)) (mx_n T))
theorem sd_in {T : mx_T} {t d : Nat} (hd : d < mx_n T) {sd : Nat → Int32} {many many' : Int32} (h : sd_I T t (d + 1) sd many) (q : sd d = 1) (hm : many' = many + 1) : sd_J T t d 0 sd many' := by
  obtain ⟨a1, a2, a3, a4, a5⟩ := h
  refine ⟨a1, a2, q, a3, a4, fun j k hj => absurd hj (Nat.not_lt_zero j), ?_⟩
  rw [hm, a5, cf_s (p := fun i => decide (sd i = 1)) hd, nI_1]
  simp [q]
theorem sd_mark {T : mx_T} (hn : mx_n T ≤ 60) (hw : mx_wf T) {t d i k : Nat} (hd : d < mx_n T) (hi : i < 3) (hp : mx_pl T i d = some k) {sd : Nat → Int32} {many : Int32} (h : sd_J T t d i sd many) : sd_J T t d (i + 1) (upd sd k 1) many := by
  obtain ⟨a1, a2, a0, a3, a4, a6, a5⟩ := h
  have hk := hw.1 d i k hd hp
  have keep : ∀ u, sd u = 1 → upd sd k 1 u = 1 := fun u q => by
    by_cases z : u = k
    · rw [z]; exact pk_us
    · rw [pk_un z]; exact q
  refine ⟨fun u hu => ?_, keep t a2, keep d a0, fun u hu q => ?_, fun x j k' h1 h2 h3 h4 h5 => ?_, fun j k' hj hp' => ?_, ?_⟩
  · by_cases z : u = k
    · rw [z, pk_us]; exact Or.inr rfl
    · rw [pk_un z]; exact a1 u hu
  · by_cases z : u = k
    · subst z; exact fun S s1 s2 => s2 d i u (a3 d (by omega) a0 S s1 s2) hi hp
    · rw [pk_un z] at q; exact a3 u hu q
  · rw [pk_un (show x ≠ k by omega)] at h3
    exact keep k' (a4 x j k' h1 h2 h3 h4 h5)
  · by_cases z : j = i
    · subst z; rw [hp] at hp'; cases hp'; exact pk_us
    · exact keep k' (a6 j k' (by omega) hp')
  · rw [a5]
    congr 1
    refine mx_cnt_congr (fun x hx => ?_)
    by_cases z : d ≤ x
    · rw [pk_un (show x ≠ k by omega)]
    · simp [z]
theorem sd_out {T : mx_T} (hpf : mx_pf T) {t d i : Nat} (hd : d < mx_n T) (hi : mx_ar (mx_pl T) d ≤ i) {sd : Nat → Int32} {many : Int32} (h : sd_J T t d i sd many) : sd_I T t d sd many := by
  obtain ⟨a1, a2, a0, a3, a4, a6, a5⟩ := h
  refine ⟨a1, a2, a3, fun x j k h1 h2 h3 h4 h5 => ?_, a5⟩
  by_cases z : x = d
  · subst z
    refine a6 j k ?_ h5
    rcases Nat.lt_or_ge j (mx_ar (mx_pl T) x) with w | w
    · omega
    · rw [(mx_ar_iff hpf hd h4).mpr w] at h5; cases h5
  · exact a4 x j k (by omega) h2 h3 h4 h5
theorem sd_end {T : mx_T} (hw : mx_wf T) (hn : mx_n T ≤ 60) {t : Nat} (ht : t < mx_n T) {sd : Nat → Int32} {many : Int32} (h : sd_I T t 0 sd many) : many = nI (mx_cnt (su_b T t) (mx_n T)) := by
  obtain ⟨a1, a2, a3, a4, a5⟩ := h
  rw [a5]
  congr 1
  refine mx_cnt_congr (fun u hu => ?_)
  have e : mx_sub (mx_pl T) t u ↔ sd u = 1 := by
    constructor
    · intro q
      exact (q (fun x => sd x = 1 ∧ x ≤ t) ⟨a2, Nat.le_refl t⟩ (fun x j k hx hj hk => ⟨a4 x j k (Nat.zero_le x) (by omega) hx.1 hj hk, by have := hw.1 x j k (by omega) hk; omega⟩)).1
    · exact a3 u (by omega)
  have : su_b T t u = decide (sd u = 1) := by
    by_cases z : sd u = 1
    · rw [su_bt.mpr (e.mpr z)]; simp [z]
    · rw [ts_nt (fun q => z (e.mp (su_bt.mp q)))]; simp [z]
  rw [this]
  simp
theorem w13 {w : Int32} (h1 : ¬ w ≤ 0) (h2 : ¬ 4 ≤ w) : w = 1 ∨ w = 2 ∨ w = 3 := by
  rcases pk_ix w (n := 4) (by decide) with h | h | ⟨k, hk, rfl⟩
  · exact absurd (Int32.le_of_lt h) h1
  · exact absurd h h2
  · rcases (show k = 0 ∨ k = 1 ∨ k = 2 ∨ k = 3 by omega) with rfl | rfl | rfl | rfl
    · exact absurd (by decide) h1
    · exact Or.inl rfl
    · exact Or.inr (Or.inl rfl)
    · exact Or.inr (Or.inr rfl)
theorem w_no {w : Int32} (h : w ≤ 0 ∨ 4 ≤ w) (h0 : ¬ w = 0) : ¬ w = 1 ∧ ¬ w = 2 ∧ ¬ w = 3 := by
  refine ⟨?_, ?_, ?_⟩ <;> (rintro rfl; revert h; decide)

set_option maxHeartbeats 4000000 in
set_option maxRecDepth 100000 in
theorem m_counted (l : Launch) (dC : Nat → ClassId) (dI : Nat → Nat → Nat) (cI cJ cZ : ClassId) (T : mx_T) (F : mx_F) (mA : Nat → Nat) (th : Int32) (jo : Int32) (a : Int32) (b : Int32) (c0 : Int32) (hn : mx_n T ≤ 60) : Met l yX4_counted wsX4_counted ({ frames := 1, cells := 0, slots := 0, locals := 21 }) (va_Pc [.ref (mA 0), .int a, .int b, .int c0] (fun U => va_P (dC, dI) vwCl [(mA 0, .inr (4, [.int th, .ref (mA 1), .ref (mA 2), .ref (mA 3), .int (nI (mx_n T)), .int (nI (mx_m F)), .ref (mA 4), .ref (mA 5), .ref (mA 6), .ref (mA 7), .ref (mA 8), .ref (mA 9), .int jo, .ref (mA 10), .ref (mA 11)]))] U.heap ∧ va_K (dC, dI) vwCl [(cI, .int), (cJ, .long), (cZ, .boolean)] U)) (vp_Si (fun r => co_P (mx_n T) a b c0 r)) 0 0 (fun _ => False) := by
  refine Met.ofW (cc := cX4_counted) (maxL := 4) (ret := (some .int)) (by decide) rfl ?_
  intro p e s m args below meth c s₁ B hml hv
  obtain ⟨rfl, hP, hK⟩ := hv
  have hx := B.exec
  have hb := B.bytes
  have hr := B.returns
  have hts := atoms_spec (ws := wsX4_counted) B.pre
  have hown : s.vm.findClass RX4 = some m.cls := findClass_of_methodNamed B.named
  have hlocks := B.notSynchronized
  have hP : va_P (dC, dI) vwCl [(mA 0, .inr (4, [.int th, .ref (mA 1), .ref (mA 2), .ref (mA 3), .int (nI (mx_n T)), .int (nI (mx_m F)), .ref (mA 4), .ref (mA 5), .ref (mA 6), .ref (mA 7), .ref (mA 8), .ref (mA 9), .int jo, .ref (mA 10), .ref (mA 11)]))] s.heap := hP
  have hl := lv_entry ([.ref (mA 0), .int a, .int b, .int c0]) (n := 4) (Nat.le_of_ble_eq_true rfl)
  rw [lg_entry_eq]
  generalize (lg_sl ([.ref (mA 0), .int a, .int b, .int c0]) ++ List.replicate (4 - (lg_sl ([.ref (mA 0), .int a, .int b, .int c0])).length) Slot.unset).toArray = ls at hl ⊢
  have hl : lv_has ls 4 [(0, .ref (mA 0)), (1, .int a), (2, .int b), (3, .int c0)] := hl
  refine lv_iload_n hx hb dX4_counted_0 rfl (lv_at hl 1 rfl) ?_
  refine lv_iconst (v := (-1)) hx hb dX4_counted_1 (by decide) ?_
  refine lv_icmp_ne (tgt := 7) hx hb dX4_counted_2 (by decide) (fun c1 => ?_) (fun c1 => ?_)
  · refine lv_aload_n hx hb dX4_counted_7 rfl (lv_at hl 0 rfl) ?_
    refine lv_iload_n hx hb dX4_counted_8 rfl (lv_at hl 1 rfl) ?_
    have hPc := hP.sub (ws' := [(mA 0, .inr (4, [.int th, .ref (mA 1), .ref (mA 2), .ref (mA 3), .int (nI (mx_n T)), .int (nI (mx_m F)), .ref (mA 4), .ref (mA 5), .ref (mA 6), .ref (mA 7), .ref (mA 8), .ref (mA 9), .int jo, .ref (mA 10), .ref (mA 11)]))]) [0] rfl
    refine vp_callSi (W.runV (As := [.int a]) (rest := []) ⟨hx, hb, hml, hown, hts⟩ (m_isTerm l dC dI cI cJ cZ T F mA th jo a hn) (cwV 1 hts (w0_goodV woX4_counted wd_558 wd_555 wd_557 ws_13 wd_5) rfl rfl rfl (by decide +kernel) ⟨Nat.le_of_ble_eq_true rfl, Nat.le_of_ble_eq_true rfl⟩) ⟨fun a U g mk q => by obtain ⟨q0, qP, qK⟩ := q; exact ⟨q0, qP, va_K.moved (u := U) (U := U.calling g mk a) (Vm.Alike.refl U.vm) qK⟩, va_recv hK hP (ci := 4) (q0 := 0) rfl rfl, fun U hU hW => ⟨rfl, by rw [hU]; exact hPc, va_K.moved hW.alike hK⟩⟩ rfl rfl hl.1 rfl (lv_room (Nat.le_of_ble_eq_true rfl)) dX4_counted_9 ⟨Nat.zero_le _, Nat.zero_le _⟩) (fun r1 hr1 => ?_)
    refine lv_if_ne (tgt := 17) hx hb dX4_counted_12 (by decide) (fun c2 => ?_) (fun c2 => ?_)
    · obtain ⟨x, hx0, rfl⟩ := zb_t hr1 c2
      refine lv_iload_n hx hb dX4_counted_17 rfl (lv_at hl 2 rfl) ?_
      refine lv_iconst (v := (-1)) hx hb dX4_counted_18 (by decide) ?_
      refine lv_icmp_ne (tgt := 24) hx hb dX4_counted_19 (by decide) (fun c3 => ?_) (fun c3 => ?_)
      · refine lv_aload_n hx hb dX4_counted_24 rfl (lv_at hl 0 rfl) ?_
        refine lv_iload_n hx hb dX4_counted_25 rfl (lv_at hl 2 rfl) ?_
        have hPc := hP.sub (ws' := [(mA 0, .inr (4, [.int th, .ref (mA 1), .ref (mA 2), .ref (mA 3), .int (nI (mx_n T)), .int (nI (mx_m F)), .ref (mA 4), .ref (mA 5), .ref (mA 6), .ref (mA 7), .ref (mA 8), .ref (mA 9), .int jo, .ref (mA 10), .ref (mA 11)]))]) [0] rfl
        refine vp_callSi (W.runV (As := [.int b]) (rest := []) ⟨hx, hb, hml, hown, hts⟩ (m_isTerm l dC dI cI cJ cZ T F mA th jo b hn) (cwV 1 hts (w0_goodV woX4_counted wd_558 wd_555 wd_557 ws_13 wd_5) rfl rfl rfl (by decide +kernel) ⟨Nat.le_of_ble_eq_true rfl, Nat.le_of_ble_eq_true rfl⟩) ⟨fun a U g mk q => by obtain ⟨q0, qP, qK⟩ := q; exact ⟨q0, qP, va_K.moved (u := U) (U := U.calling g mk a) (Vm.Alike.refl U.vm) qK⟩, va_recv hK hP (ci := 4) (q0 := 0) rfl rfl, fun U hU hW => ⟨rfl, by rw [hU]; exact hPc, va_K.moved hW.alike hK⟩⟩ rfl rfl hl.1 rfl (lv_room (Nat.le_of_ble_eq_true rfl)) dX4_counted_26 ⟨Nat.zero_le _, Nat.zero_le _⟩) (fun r2 hr2 => ?_)
        refine lv_if_ne (tgt := 34) hx hb dX4_counted_29 (by decide) (fun c4 => ?_) (fun c4 => ?_)
        · obtain ⟨y, hy0, rfl⟩ := zb_t hr2 c4
          refine lv_iload_n hx hb dX4_counted_34 rfl (lv_at hl 3 rfl) ?_
          refine lv_iconst (v := (-1)) hx hb dX4_counted_35 (by decide) ?_
          refine lv_icmp_ne (tgt := 43) hx hb dX4_counted_36 (by decide) (fun c5 => ?_) (fun c5 => ?_)
          · refine lv_aload_n hx hb dX4_counted_43 rfl (lv_at hl 0 rfl) ?_
            refine lv_iload_n hx hb dX4_counted_44 rfl (lv_at hl 3 rfl) ?_
            have hPc := hP.sub (ws' := [(mA 0, .inr (4, [.int th, .ref (mA 1), .ref (mA 2), .ref (mA 3), .int (nI (mx_n T)), .int (nI (mx_m F)), .ref (mA 4), .ref (mA 5), .ref (mA 6), .ref (mA 7), .ref (mA 8), .ref (mA 9), .int jo, .ref (mA 10), .ref (mA 11)]))]) [0] rfl
            refine vp_callSi (W.runV (As := [.int c0]) (rest := []) ⟨hx, hb, hml, hown, hts⟩ (m_isTerm l dC dI cI cJ cZ T F mA th jo c0 hn) (cwV 1 hts (w0_goodV woX4_counted wd_558 wd_555 wd_557 ws_13 wd_5) rfl rfl rfl (by decide +kernel) ⟨Nat.le_of_ble_eq_true rfl, Nat.le_of_ble_eq_true rfl⟩) ⟨fun a U g mk q => by obtain ⟨q0, qP, qK⟩ := q; exact ⟨q0, qP, va_K.moved (u := U) (U := U.calling g mk a) (Vm.Alike.refl U.vm) qK⟩, va_recv hK hP (ci := 4) (q0 := 0) rfl rfl, fun U hU hW => ⟨rfl, by rw [hU]; exact hPc, va_K.moved hW.alike hK⟩⟩ rfl rfl hl.1 rfl (lv_room (Nat.le_of_ble_eq_true rfl)) dX4_counted_45 ⟨Nat.zero_le _, Nat.zero_le _⟩) (fun r3 hr3 => ?_)
            refine lv_if_eq (tgt := 55) hx hb dX4_counted_48 (by decide) (fun c6 => ?_) (fun c6 => ?_)
            · refine lv_iconst (v := 4) hx hb dX4_counted_55 (by decide) ?_
              exact W.iret (v := 4) hx hb hr (fun t9 ht9 _ => ⟨_, rfl, Or.inr ⟨rfl, co_c c1 c3 c5 (zb_f hr3 c6)⟩, ht9⟩) (fun q h => by cases h) dX4_counted_56
            · obtain ⟨z, hz0, rfl⟩ := zb_t hr3 c6
              refine lv_iconst (v := 3) hx hb dX4_counted_51 (by decide) ?_
              refine lv_goto (tgt := 56) hx hb dX4_counted_52 (by decide) ?_
              exact W.iret (v := 3) hx hb hr (fun t9 ht9 _ => ⟨_, rfl, Or.inl ⟨some x, some y, some z, Or.inr (Or.inr (Or.inr ⟨x, y, z, hx0, hy0, hz0, rfl, rfl, rfl, rfl, rfl, rfl⟩)), rfl⟩, ht9⟩) (fun q h => by cases h) dX4_counted_56
          · refine lv_iconst (v := 2) hx hb dX4_counted_39 (by decide) ?_
            refine lv_goto (tgt := 56) hx hb dX4_counted_40 (by decide) ?_
            exact W.iret (v := 2) hx hb hr (fun t9 ht9 _ => ⟨_, rfl, Or.inl ⟨some x, some y, none, Or.inr (Or.inr (Or.inl ⟨x, y, hx0, hy0, rfl, rfl, rfl, rfl, c5, rfl⟩)), rfl⟩, ht9⟩) (fun q h => by cases h) dX4_counted_56
        · refine lv_iconst (v := 4) hx hb dX4_counted_32 (by decide) ?_
          exact W.iret (v := 4) hx hb hr (fun t9 ht9 _ => ⟨_, rfl, Or.inr ⟨rfl, co_b c1 c3 (zb_f hr2 c4)⟩, ht9⟩) (fun q h => by cases h) dX4_counted_33
      · refine lv_iconst (v := 1) hx hb dX4_counted_22 (by decide) ?_
        exact W.iret (v := 1) hx hb hr (fun t9 ht9 _ => ⟨_, rfl, Or.inl ⟨some x, none, none, Or.inr (Or.inl ⟨x, hx0, rfl, rfl, c3, rfl, rfl⟩), rfl⟩, ht9⟩) (fun q h => by cases h) dX4_counted_23
    · refine lv_iconst (v := 4) hx hb dX4_counted_15 (by decide) ?_
      exact W.iret (v := 4) hx hb hr (fun t9 ht9 _ => ⟨_, rfl, Or.inr ⟨rfl, co_a c1 (zb_f hr1 c2)⟩, ht9⟩) (fun q h => by cases h) dX4_counted_16
  · refine lv_iconst (v := 0) hx hb dX4_counted_5 (by decide) ?_
    exact W.iret (v := 0) hx hb hr (fun t9 ht9 _ => ⟨_, rfl, Or.inl ⟨none, none, none, Or.inl ⟨c1, rfl, rfl, rfl⟩, rfl⟩, ht9⟩) (fun q h => by cases h) dX4_counted_6

set_option maxHeartbeats 4000000 in
set_option maxRecDepth 100000 in
theorem te_x {p : Program} {l : Launch} {e : Env} {s : State} {m : MethodId} {args : Array Value} {below : List Frame} {meth : Method} {c : Code} {Q : State → Prop} (hx : p.tables.exec = Jvm.exec) (hb : c.code = cX4_term) (hown : s.vm.findClass RX4 = some m.cls) (hts : ∀ w ∈ wsX4_term, w.before args s = true) {dC : Nat → ClassId} {dI : Nat → Nat → Nat} {cI cJ cZ : ClassId} (hK : va_K (dC, dI) vwCl [(cI, .int), (cJ, .long), (cZ, .boolean)] s) {T : mx_T} {F : mx_F} {mA : Nat → Nat} {th : Int32} {jo : Int32} {isu : Nat → Int32} {pls : Nat → Int32} {msg : Nat → Int32} {at_ : Nat → Int32} {s0 : Nat} {qa : Option Nat} {qb : Option Nat} {qc : Option Nat} {a : Int32} {b : Int32} {c0 : Int32} (htp : tp_ok (mx_n T) a b c0 qa qb qc) {H : Heap} {locs : List Loc} (hP : va_P (dC, dI) vwCl [(mA 0, .inr (4, [.int th, .ref (mA 1), .ref (mA 2), .ref (mA 3), .int (nI (mx_n T)), .int (nI (mx_m F)), .ref (mA 4), .ref (mA 5), .ref (mA 6), .ref (mA 7), .ref (mA 8), .ref (mA 9), .int jo, .ref (mA 10), .ref (mA 11)])), (mA 2, .inl (cZ, 16, .inl isu)), (mA 3, .inl (cI, 16, .inl pls)), (mA 4, .inl (cI, 60, .inl msg)), (mA 5, .inl (cI, 180, .inl at_))] H) (hml : c.maxLocals = 10) (kk : ∀  (ls : Array Slot), lv_has ls 10 [(0, .ref (mA 0)), (1, .int (nI s0)), (5, .int (nI (q_ar qa qb qc))), (6, .int (mx_enc qa)), (7, .int (mx_enc qb)), (8, .int (mx_enc qc))] → W p l e ({ frames := 2, cells := 0, slots := 0, locals := 44 }) s m args below meth c H locs 0 0 Q (F0 m 107 ls [])) : ∀ (d : Nat)  (ls : Array Slot), (d = 0) → lv_has ls 10 [(0, .ref (mA 0)), (1, .int (nI s0)), (5, .int (nI (q_ar qa qb qc))), (2, .int a), (3, .int b), (4, .int c0)] → W p l e ({ frames := 2, cells := 0, slots := 0, locals := 44 }) s m args below meth c H locs 0 0 Q (F0 m 68 ls []) := by
  intro d
  intro  ls hd  hl
  rcases htp with ⟨rfl, rfl, rfl, rfl⟩ | ⟨x, hx0, rfl, rfl, rfl, rfl, rfl⟩ | ⟨x, y, hx0, hy0, rfl, rfl, rfl, rfl, rfl, rfl⟩ | ⟨x, y, z, hx0, hy0, hz0, rfl, rfl, rfl, rfl, rfl, rfl⟩
  · refine lv_iload hx hb dX4_term_68 (lv_at hl 2 rfl) ?_
    refine lv_if_le (tgt := 77) hx hb dX4_term_70 (by decide) (fun e0 => ?_) (fun e0 => ?_)
    · refine lv_iconst (v := (-1)) hx hb dX4_term_77 (by decide) ?_
      refine lv_istore (lv' := [(6, .int (-1)), (0, .ref (mA 0)), (1, .int (nI s0)), (5, .int (nI (q_ar none none none))), (2, .int (-1)), (3, .int b), (4, .int c0)]) hx hb dX4_term_78 hl (by decide) rfl (fun ls hl => ?_)
      refine lv_iload hx hb dX4_term_80 (lv_at hl 3 rfl) ?_
      refine lv_iconst (v := 1) hx hb dX4_term_82 (by decide) ?_
      refine lv_icmp_le (tgt := 90) hx hb dX4_term_83 (by decide) (fun e1 => ?_) (fun e1 => ?_)
      · refine lv_iconst (v := (-1)) hx hb dX4_term_90 (by decide) ?_
        refine lv_istore (lv' := [(7, .int (-1)), (6, .int (-1)), (0, .ref (mA 0)), (1, .int (nI s0)), (5, .int (nI (q_ar none none none))), (2, .int (-1)), (3, .int b), (4, .int c0)]) hx hb dX4_term_91 hl (by decide) rfl (fun ls hl => ?_)
        refine lv_iload hx hb dX4_term_93 (lv_at hl 4 rfl) ?_
        refine lv_iconst (v := 2) hx hb dX4_term_95 (by decide) ?_
        refine lv_icmp_le (tgt := 104) hx hb dX4_term_96 (by decide) (fun e2 => ?_) (fun e2 => ?_)
        · refine lv_iconst (v := (-1)) hx hb dX4_term_104 (by decide) ?_
          refine lv_istore (lv' := [(8, .int (-1)), (7, .int (-1)), (6, .int (-1)), (0, .ref (mA 0)), (1, .int (nI s0)), (5, .int (nI (q_ar none none none))), (2, .int (-1)), (3, .int b), (4, .int c0)]) hx hb dX4_term_105 hl (by decide) rfl (fun ls hl => ?_)
          exact kk _ (lv_sub hl [3, 4, 5, 2, 1, 0] rfl)
        · exact absurd (show nI 0 ≤ 2 from by decide) e2
      · exact absurd (show nI 0 ≤ 1 from by decide) e1
    · exact absurd (show nI 0 ≤ 0 from by decide) e0
  · refine lv_iload hx hb dX4_term_68 (lv_at hl 2 rfl) ?_
    refine lv_if_le (tgt := 77) hx hb dX4_term_70 (by decide) (fun e0 => ?_) (fun e0 => ?_)
    · exact absurd e0 (show ¬ nI 1 ≤ 0 from by decide)
    · refine lv_iload_n hx hb dX4_term_73 rfl (lv_at hl 3 rfl) ?_
      refine lv_goto (tgt := 78) hx hb dX4_term_74 (by decide) ?_
      refine lv_istore (lv' := [(6, .int (nI x)), (0, .ref (mA 0)), (1, .int (nI s0)), (5, .int (nI (q_ar (some x) none none))), (2, .int (nI x)), (3, .int (-1)), (4, .int c0)]) hx hb dX4_term_78 hl (by decide) rfl (fun ls hl => ?_)
      refine lv_iload hx hb dX4_term_80 (lv_at hl 3 rfl) ?_
      refine lv_iconst (v := 1) hx hb dX4_term_82 (by decide) ?_
      refine lv_icmp_le (tgt := 90) hx hb dX4_term_83 (by decide) (fun e1 => ?_) (fun e1 => ?_)
      · refine lv_iconst (v := (-1)) hx hb dX4_term_90 (by decide) ?_
        refine lv_istore (lv' := [(7, .int (-1)), (6, .int (nI x)), (0, .ref (mA 0)), (1, .int (nI s0)), (5, .int (nI (q_ar (some x) none none))), (2, .int (nI x)), (3, .int (-1)), (4, .int c0)]) hx hb dX4_term_91 hl (by decide) rfl (fun ls hl => ?_)
        refine lv_iload hx hb dX4_term_93 (lv_at hl 4 rfl) ?_
        refine lv_iconst (v := 2) hx hb dX4_term_95 (by decide) ?_
        refine lv_icmp_le (tgt := 104) hx hb dX4_term_96 (by decide) (fun e2 => ?_) (fun e2 => ?_)
        · refine lv_iconst (v := (-1)) hx hb dX4_term_104 (by decide) ?_
          refine lv_istore (lv' := [(8, .int (-1)), (7, .int (-1)), (6, .int (nI x)), (0, .ref (mA 0)), (1, .int (nI s0)), (5, .int (nI (q_ar (some x) none none))), (2, .int (nI x)), (3, .int (-1)), (4, .int c0)]) hx hb dX4_term_105 hl (by decide) rfl (fun ls hl => ?_)
          exact kk _ (lv_sub hl [3, 4, 5, 2, 1, 0] rfl)
        · exact absurd (show nI 1 ≤ 2 from by decide) e2
      · exact absurd (show nI 1 ≤ 1 from by decide) e1
  · refine lv_iload hx hb dX4_term_68 (lv_at hl 2 rfl) ?_
    refine lv_if_le (tgt := 77) hx hb dX4_term_70 (by decide) (fun e0 => ?_) (fun e0 => ?_)
    · exact absurd e0 (show ¬ nI 2 ≤ 0 from by decide)
    · refine lv_iload_n hx hb dX4_term_73 rfl (lv_at hl 3 rfl) ?_
      refine lv_goto (tgt := 78) hx hb dX4_term_74 (by decide) ?_
      refine lv_istore (lv' := [(6, .int (nI x)), (0, .ref (mA 0)), (1, .int (nI s0)), (5, .int (nI (q_ar (some x) (some y) none))), (2, .int (nI x)), (3, .int (nI y)), (4, .int (-1))]) hx hb dX4_term_78 hl (by decide) rfl (fun ls hl => ?_)
      refine lv_iload hx hb dX4_term_80 (lv_at hl 3 rfl) ?_
      refine lv_iconst (v := 1) hx hb dX4_term_82 (by decide) ?_
      refine lv_icmp_le (tgt := 90) hx hb dX4_term_83 (by decide) (fun e1 => ?_) (fun e1 => ?_)
      · exact absurd e1 (show ¬ nI 2 ≤ 1 from by decide)
      · refine lv_iload_n hx hb dX4_term_86 rfl (lv_at hl 5 rfl) ?_
        refine lv_goto (tgt := 91) hx hb dX4_term_87 (by decide) ?_
        refine lv_istore (lv' := [(7, .int (nI y)), (6, .int (nI x)), (0, .ref (mA 0)), (1, .int (nI s0)), (5, .int (nI (q_ar (some x) (some y) none))), (2, .int (nI x)), (3, .int (nI y)), (4, .int (-1))]) hx hb dX4_term_91 hl (by decide) rfl (fun ls hl => ?_)
        refine lv_iload hx hb dX4_term_93 (lv_at hl 4 rfl) ?_
        refine lv_iconst (v := 2) hx hb dX4_term_95 (by decide) ?_
        refine lv_icmp_le (tgt := 104) hx hb dX4_term_96 (by decide) (fun e2 => ?_) (fun e2 => ?_)
        · refine lv_iconst (v := (-1)) hx hb dX4_term_104 (by decide) ?_
          refine lv_istore (lv' := [(8, .int (-1)), (7, .int (nI y)), (6, .int (nI x)), (0, .ref (mA 0)), (1, .int (nI s0)), (5, .int (nI (q_ar (some x) (some y) none))), (2, .int (nI x)), (3, .int (nI y)), (4, .int (-1))]) hx hb dX4_term_105 hl (by decide) rfl (fun ls hl => ?_)
          exact kk _ (lv_sub hl [3, 4, 5, 2, 1, 0] rfl)
        · exact absurd (show nI 2 ≤ 2 from by decide) e2
  · refine lv_iload hx hb dX4_term_68 (lv_at hl 2 rfl) ?_
    refine lv_if_le (tgt := 77) hx hb dX4_term_70 (by decide) (fun e0 => ?_) (fun e0 => ?_)
    · exact absurd e0 (show ¬ nI 3 ≤ 0 from by decide)
    · refine lv_iload_n hx hb dX4_term_73 rfl (lv_at hl 3 rfl) ?_
      refine lv_goto (tgt := 78) hx hb dX4_term_74 (by decide) ?_
      refine lv_istore (lv' := [(6, .int (nI x)), (0, .ref (mA 0)), (1, .int (nI s0)), (5, .int (nI (q_ar (some x) (some y) (some z)))), (2, .int (nI x)), (3, .int (nI y)), (4, .int (nI z))]) hx hb dX4_term_78 hl (by decide) rfl (fun ls hl => ?_)
      refine lv_iload hx hb dX4_term_80 (lv_at hl 3 rfl) ?_
      refine lv_iconst (v := 1) hx hb dX4_term_82 (by decide) ?_
      refine lv_icmp_le (tgt := 90) hx hb dX4_term_83 (by decide) (fun e1 => ?_) (fun e1 => ?_)
      · exact absurd e1 (show ¬ nI 3 ≤ 1 from by decide)
      · refine lv_iload_n hx hb dX4_term_86 rfl (lv_at hl 5 rfl) ?_
        refine lv_goto (tgt := 91) hx hb dX4_term_87 (by decide) ?_
        refine lv_istore (lv' := [(7, .int (nI y)), (6, .int (nI x)), (0, .ref (mA 0)), (1, .int (nI s0)), (5, .int (nI (q_ar (some x) (some y) (some z)))), (2, .int (nI x)), (3, .int (nI y)), (4, .int (nI z))]) hx hb dX4_term_91 hl (by decide) rfl (fun ls hl => ?_)
        refine lv_iload hx hb dX4_term_93 (lv_at hl 4 rfl) ?_
        refine lv_iconst (v := 2) hx hb dX4_term_95 (by decide) ?_
        refine lv_icmp_le (tgt := 104) hx hb dX4_term_96 (by decide) (fun e2 => ?_) (fun e2 => ?_)
        · exact absurd e2 (show ¬ nI 3 ≤ 2 from by decide)
        · refine lv_iload hx hb dX4_term_99 (lv_at hl 7 rfl) ?_
          refine lv_goto (tgt := 105) hx hb dX4_term_101 (by decide) ?_
          refine lv_istore (lv' := [(8, .int (nI z)), (7, .int (nI y)), (6, .int (nI x)), (0, .ref (mA 0)), (1, .int (nI s0)), (5, .int (nI (q_ar (some x) (some y) (some z)))), (2, .int (nI x)), (3, .int (nI y)), (4, .int (nI z))]) hx hb dX4_term_105 hl (by decide) rfl (fun ls hl => ?_)
          exact kk _ (lv_sub hl [3, 4, 5, 2, 1, 0] rfl)

set_option maxHeartbeats 4000000 in
set_option maxRecDepth 100000 in
theorem te_l {p : Program} {l : Launch} {e : Env} {s : State} {m : MethodId} {args : Array Value} {below : List Frame} {meth : Method} {c : Code} {Q : State → Prop} (hx : p.tables.exec = Jvm.exec) (hb : c.code = cX4_term) (hown : s.vm.findClass RX4 = some m.cls) (hts : ∀ w ∈ wsX4_term, w.before args s = true) {dC : Nat → ClassId} {dI : Nat → Nat → Nat} {cI cJ cZ : ClassId} (hK : va_K (dC, dI) vwCl [(cI, .int), (cJ, .long), (cZ, .boolean)] s) {T : mx_T} {F : mx_F} {mA : Nat → Nat} {th : Int32} {jo : Int32} {isb : Nat → Int32} {isu : Nat → Int32} {pls : Nat → Int32} {msg : Nat → Int32} {at_ : Nat → Int32} {s0 : Nat} {qa : Option Nat} {qb : Option Nat} {qc : Option Nat} (hw : mx_wf T) (hpf : mx_pf T) (hn : mx_n T ≤ 60) (hmt : md_T T isb pls msg at_) (hs0 : s0 < 16) (ha : ∀ k, qa = some k → k < mx_n T) (hbq : ∀ k, qb = some k → k < mx_n T) (hc : ∀ k, qc = some k → k < mx_n T) {H : Heap} {locs : List Loc} (hP : va_P (dC, dI) vwCl [(mA 0, .inr (4, [.int th, .ref (mA 1), .ref (mA 2), .ref (mA 3), .int (nI (mx_n T)), .int (nI (mx_m F)), .ref (mA 4), .ref (mA 5), .ref (mA 6), .ref (mA 7), .ref (mA 8), .ref (mA 9), .int jo, .ref (mA 10), .ref (mA 11)])), (mA 2, .inl (cZ, 16, .inl isu)), (mA 3, .inl (cI, 16, .inl pls)), (mA 4, .inl (cI, 60, .inl msg)), (mA 5, .inl (cI, 180, .inl at_))] H) (hml : c.maxLocals = 10) (kk : ∀ (t : Nat) (ls : Array Slot), (∀ u, u < t → ¬ te_is T s0 qa qb qc u) → (t = mx_n T ∨ (t < mx_n T ∧ te_is T s0 qa qb qc t)) → lv_has ls 10 [(0, .ref (mA 0)), (1, .int (nI s0)), (5, .int (nI (q_ar qa qb qc))), (6, .int (mx_enc qa)), (7, .int (mx_enc qb)), (8, .int (mx_enc qc)), (9, .int (nI t))] → W p l e ({ frames := 2, cells := 0, slots := 0, locals := 44 }) s m args below meth c H locs 0 0 Q (F0 m 182 ls [])) : ∀ (d : Nat) (t : Nat) (ls : Array Slot), (t + d = mx_n T) → (t ≤ mx_n T) → (∀ u, u < t → ¬ te_is T s0 qa qb qc u) → lv_has ls 10 [(0, .ref (mA 0)), (1, .int (nI s0)), (5, .int (nI (q_ar qa qb qc))), (6, .int (mx_enc qa)), (7, .int (mx_enc qb)), (8, .int (mx_enc qc)), (9, .int (nI t))] → W p l e ({ frames := 2, cells := 0, slots := 0, locals := 44 }) s m args below meth c H locs 0 0 Q (F0 m 110 ls []) := by
  intro d
  induction d with
  | zero =>
    intro t ls hd ht hI hl
    refine lv_iload hx hb dX4_term_110 (lv_at hl 6 rfl) ?_
    refine lv_aload_n hx hb dX4_term_112 rfl (lv_at hl 0 rfl) ?_
    refine va_get (D := (dC, dI)) (ci := 4) (v := .int (nI (mx_n T))) (C := RX4) (T := TX4) (N := 15) hx hb hts (fun w h => woX4_term w (inX4 w h)) hown hK hP 0 rfl rfl 4 (by decide) (hts _ (woX4_term _ wd_497)) (fun _ h9 => h9) rfl dX4_term_113 ?_
    refine lv_icmp_ge (tgt := 182) hx hb dX4_term_116 (by decide) (fun c1 => ?_) (fun c1 => ?_)
    · refine kk t _ hI (Or.inl (by omega)) (lv_sub hl [0, 1, 2, 3, 4, 5, 6] rfl)
    · exact absurd (nI_le (a := mx_n T) (b := t) (by omega) (by omega)) c1
  | succ d ih =>
    intro t ls hd ht hI hl
    have ht0 : t < mx_n T := by omega
    obtain ⟨e1, e2, -, -⟩ := hmt.1 t ht0
    have a0 := hmt.2 t 0 ht0 (by omega)
    have a1 := hmt.2 t 1 ht0 (by omega)
    have a2 := hmt.2 t 2 ht0 (by omega)
    have hpl : ∀ j k, mx_pl T j t = some k → k < 64 := fun j k q => by have := hw.1 t j k ht0 q; omega
    have h64 : ∀ {q : Option Nat}, (∀ k, q = some k → k < mx_n T) → ∀ k, q = some k → k < 64 := fun h k e => by have := h k e; omega
    refine lv_iload hx hb dX4_term_110 (lv_at hl 6 rfl) ?_
    refine lv_aload_n hx hb dX4_term_112 rfl (lv_at hl 0 rfl) ?_
    refine va_get (D := (dC, dI)) (ci := 4) (v := .int (nI (mx_n T))) (C := RX4) (T := TX4) (N := 15) hx hb hts (fun w h => woX4_term w (inX4 w h)) hown hK hP 0 rfl rfl 4 (by decide) (hts _ (woX4_term _ wd_497)) (fun _ h9 => h9) rfl dX4_term_113 ?_
    refine lv_icmp_ge (tgt := 182) hx hb dX4_term_116 (by decide) (fun c1 => ?_) (fun c1 => ?_)
    · exact absurd c1 (nI_ge ht0 (by omega))
    · refine lv_aload_n hx hb dX4_term_119 rfl (lv_at hl 0 rfl) ?_
      refine va_get (D := (dC, dI)) (ci := 4) (v := .ref (mA 4)) (C := RX4) (T := TX4) (N := 15) hx hb hts (fun w h => woX4_term w (inX4 w h)) hown hK hP 0 rfl rfl 6 (by decide) (hts _ (woX4_term _ wd_499)) (fun _ h9 => h9) rfl dX4_term_120 ?_
      refine lv_iload hx hb dX4_term_123 (lv_at hl 6 rfl) ?_
      refine va_iald hx hb hK hP 3 0 rfl rfl (vp_in_nI (by omega) (by omega)) dX4_term_125 ?_
      rw [show (nI t).toNatClampNeg = t from nI_clamp (by omega)]
      rw [e1]
      refine lv_iload_n hx hb dX4_term_126 rfl (lv_at hl 1 rfl) ?_
      refine lv_icmp_ne (tgt := 176) hx hb dX4_term_127 (by decide) (fun c2 => ?_) (fun c2 => ?_)
      · obtain ⟨y_1, ey_1⟩ : ∃ y9 : Int32, y9 = (nI t) + 1 := ⟨_, rfl⟩
        refine lv_iinc (v := y_1) (lv' := [(9, .int y_1), (0, .ref (mA 0)), (1, .int (nI s0)), (5, .int (nI (q_ar qa qb qc))), (6, .int (mx_enc qa)), (7, .int (mx_enc qb)), (8, .int (mx_enc qc))]) hx hb dX4_term_176 hl (k := 6) rfl (by rw [ey_1]; rfl) (by decide) rfl (fun ls hl => ?_)
        refine lv_goto (tgt := 110) hx hb dX4_term_179 (by decide) ?_
        rw [ey_1, nI_1] at hl
        refine ih (t + 1) _ (by omega) (by omega) (fun u hu q => ?_) (lv_sub hl [1, 2, 3, 4, 5, 6, 0] rfl)
        rcases (show u < t ∨ u = t by omega) with z | rfl
        · exact hI u z q
        · exact c2 (by rw [q.1])
      · have k1 : mx_sg T t = s0 := (nI_eq (by omega) (by omega)).mp c2
        refine lv_aload_n hx hb dX4_term_130 rfl (lv_at hl 0 rfl) ?_
        refine va_get (D := (dC, dI)) (ci := 4) (v := .ref (mA 5)) (C := RX4) (T := TX4) (N := 15) hx hb hts (fun w h => woX4_term w (inX4 w h)) hown hK hP 0 rfl rfl 7 (by decide) (hts _ (woX4_term _ wd_500)) (fun _ h9 => h9) rfl dX4_term_131 ?_
        refine lv_iconst (v := 3) hx hb dX4_term_134 (by decide) ?_
        refine lv_iload hx hb dX4_term_135 (lv_at hl 6 rfl) ?_
        refine lv_imul hx hb dX4_term_137 ?_
        rw [ix3z]
        refine va_iald hx hb hK hP 4 0 rfl rfl (vp_in_nI (by omega) (by omega)) dX4_term_138 ?_
        rw [show (nI (3 * t)).toNatClampNeg = (3 * t) from nI_clamp (by omega)]
        rw [show at_ (3 * t) = _ from a0]
        refine lv_iload hx hb dX4_term_139 (lv_at hl 3 rfl) ?_
        refine lv_icmp_ne (tgt := 176) hx hb dX4_term_141 (by decide) (fun c3 => ?_) (fun c3 => ?_)
        · obtain ⟨y_2, ey_2⟩ : ∃ y9 : Int32, y9 = (nI t) + 1 := ⟨_, rfl⟩
          refine lv_iinc (v := y_2) (lv' := [(9, .int y_2), (0, .ref (mA 0)), (1, .int (nI s0)), (5, .int (nI (q_ar qa qb qc))), (6, .int (mx_enc qa)), (7, .int (mx_enc qb)), (8, .int (mx_enc qc))]) hx hb dX4_term_176 hl (k := 6) rfl (by rw [ey_2]; rfl) (by decide) rfl (fun ls hl => ?_)
          refine lv_goto (tgt := 110) hx hb dX4_term_179 (by decide) ?_
          rw [ey_2, nI_1] at hl
          refine ih (t + 1) _ (by omega) (by omega) (fun u hu q => ?_) (lv_sub hl [1, 2, 3, 4, 5, 6, 0] rfl)
          rcases (show u < t ∨ u = t by omega) with z | rfl
          · exact hI u z q
          · exact c3 (by rw [q.2.1])
        · have k2 : mx_pl T 0 t = qa := mx_enc_inj (hpl 0) (h64 ha) c3
          refine lv_aload_n hx hb dX4_term_144 rfl (lv_at hl 0 rfl) ?_
          refine va_get (D := (dC, dI)) (ci := 4) (v := .ref (mA 5)) (C := RX4) (T := TX4) (N := 15) hx hb hts (fun w h => woX4_term w (inX4 w h)) hown hK hP 0 rfl rfl 7 (by decide) (hts _ (woX4_term _ wd_500)) (fun _ h9 => h9) rfl dX4_term_145 ?_
          refine lv_iconst (v := 3) hx hb dX4_term_148 (by decide) ?_
          refine lv_iload hx hb dX4_term_149 (lv_at hl 6 rfl) ?_
          refine lv_imul hx hb dX4_term_151 ?_
          rw [ix3z]
          refine lv_iconst (v := 1) hx hb dX4_term_152 (by decide) ?_
          refine lv_iadd hx hb dX4_term_153 ?_
          rw [ix3a]
          refine va_iald hx hb hK hP 4 0 rfl rfl (vp_in_nI (by omega) (by omega)) dX4_term_154 ?_
          rw [show (nI (3 * t + 1)).toNatClampNeg = (3 * t + 1) from nI_clamp (by omega)]
          rw [a1]
          refine lv_iload hx hb dX4_term_155 (lv_at hl 4 rfl) ?_
          refine lv_icmp_ne (tgt := 176) hx hb dX4_term_157 (by decide) (fun c4 => ?_) (fun c4 => ?_)
          · obtain ⟨y_3, ey_3⟩ : ∃ y9 : Int32, y9 = (nI t) + 1 := ⟨_, rfl⟩
            refine lv_iinc (v := y_3) (lv' := [(9, .int y_3), (0, .ref (mA 0)), (1, .int (nI s0)), (5, .int (nI (q_ar qa qb qc))), (6, .int (mx_enc qa)), (7, .int (mx_enc qb)), (8, .int (mx_enc qc))]) hx hb dX4_term_176 hl (k := 6) rfl (by rw [ey_3]; rfl) (by decide) rfl (fun ls hl => ?_)
            refine lv_goto (tgt := 110) hx hb dX4_term_179 (by decide) ?_
            rw [ey_3, nI_1] at hl
            refine ih (t + 1) _ (by omega) (by omega) (fun u hu q => ?_) (lv_sub hl [1, 2, 3, 4, 5, 6, 0] rfl)
            rcases (show u < t ∨ u = t by omega) with z | rfl
            · exact hI u z q
            · exact c4 (by rw [q.2.2.1])
          · have k3 : mx_pl T 1 t = qb := mx_enc_inj (hpl 1) (h64 hbq) c4
            refine lv_aload_n hx hb dX4_term_160 rfl (lv_at hl 0 rfl) ?_
            refine va_get (D := (dC, dI)) (ci := 4) (v := .ref (mA 5)) (C := RX4) (T := TX4) (N := 15) hx hb hts (fun w h => woX4_term w (inX4 w h)) hown hK hP 0 rfl rfl 7 (by decide) (hts _ (woX4_term _ wd_500)) (fun _ h9 => h9) rfl dX4_term_161 ?_
            refine lv_iconst (v := 3) hx hb dX4_term_164 (by decide) ?_
            refine lv_iload hx hb dX4_term_165 (lv_at hl 6 rfl) ?_
            refine lv_imul hx hb dX4_term_167 ?_
            rw [ix3z]
            refine lv_iconst (v := 2) hx hb dX4_term_168 (by decide) ?_
            refine lv_iadd hx hb dX4_term_169 ?_
            rw [ix3b]
            refine va_iald hx hb hK hP 4 0 rfl rfl (vp_in_nI (by omega) (by omega)) dX4_term_170 ?_
            rw [show (nI (3 * t + 2)).toNatClampNeg = (3 * t + 2) from nI_clamp (by omega)]
            rw [a2]
            refine lv_iload hx hb dX4_term_171 (lv_at hl 5 rfl) ?_
            refine lv_icmp_eq (tgt := 182) hx hb dX4_term_173 (by decide) (fun c5 => ?_) (fun c5 => ?_)
            · refine kk t _ hI (Or.inr ⟨ht0, k1, k2, k3, mx_enc_inj (hpl 2) (h64 hc) c5⟩) (lv_sub hl [0, 1, 2, 3, 4, 5, 6] rfl)
            · obtain ⟨y_4, ey_4⟩ : ∃ y9 : Int32, y9 = (nI t) + 1 := ⟨_, rfl⟩
              refine lv_iinc (v := y_4) (lv' := [(9, .int y_4), (0, .ref (mA 0)), (1, .int (nI s0)), (5, .int (nI (q_ar qa qb qc))), (6, .int (mx_enc qa)), (7, .int (mx_enc qb)), (8, .int (mx_enc qc))]) hx hb dX4_term_176 hl (k := 6) rfl (by rw [ey_4]; rfl) (by decide) rfl (fun ls hl => ?_)
              refine lv_goto (tgt := 110) hx hb dX4_term_179 (by decide) ?_
              rw [ey_4, nI_1] at hl
              refine ih (t + 1) _ (by omega) (by omega) (fun u hu q => ?_) (lv_sub hl [1, 2, 3, 4, 5, 6, 0] rfl)
              rcases (show u < t ∨ u = t by omega) with z | rfl
              · exact hI u z q
              · exact c5 (by rw [q.2.2.2])

set_option maxHeartbeats 4000000 in
set_option maxRecDepth 100000 in
/-- the reference: term -/
theorem m_term (l : Launch) (dC : Nat → ClassId) (dI : Nat → Nat → Nat) (cI cJ cZ : ClassId) (T : mx_T) (F : mx_F) (bs : Nat → Bool) (mA : Nat → Nat) (th : Int32) (jo : Int32) (isb : Nat → Int32) (isu : Nat → Int32) (pls : Nat → Int32) (msg : Nat → Int32) (at_ : Nat → Int32) (sv : Int32) (a : Int32) (b : Int32) (c0 : Int32) (sz : Nat) (hw : mx_wf T) (hpf : mx_pf T) (hn : mx_n T ≤ 60) (hmt : md_T T isb pls msg at_) (hU : md_U T isu) (hB : md_B bs isb) : Met l yX4_term wsX4_term ({ frames := 2, cells := 0, slots := 0, locals := 44 }) (va_Pc [.ref (mA 0), .int sv, .int a, .int b, .int c0] (fun U => U.heap.size = sz ∧ va_P (dC, dI) vwCl [(mA 0, .inr (4, [.int th, .ref (mA 1), .ref (mA 2), .ref (mA 3), .int (nI (mx_n T)), .int (nI (mx_m F)), .ref (mA 4), .ref (mA 5), .ref (mA 6), .ref (mA 7), .ref (mA 8), .ref (mA 9), .int jo, .ref (mA 10), .ref (mA 11)])), (mA 2, .inl (cZ, 16, .inl isu)), (mA 3, .inl (cI, 16, .inl pls)), (mA 4, .inl (cI, 60, .inl msg)), (mA 5, .inl (cI, 180, .inl at_))] U.heap ∧ va_K (dC, dI) vwCl [(cI, .int), (cJ, .long), (cZ, .boolean)] U ∧ va_D (fun _ => True) [(mA 0, .inr (4, [.int th, .ref (mA 1), .ref (mA 2), .ref (mA 3), .int (nI (mx_n T)), .int (nI (mx_m F)), .ref (mA 4), .ref (mA 5), .ref (mA 6), .ref (mA 7), .ref (mA 8), .ref (mA 9), .int jo, .ref (mA 10), .ref (mA 11)])), (mA 2, .inl (cZ, 16, .inl isu)), (mA 3, .inl (cI, 16, .inl pls)), (mA 4, .inl (cI, 60, .inl msg)), (mA 5, .inl (cI, 180, .inl at_))])) (va_Qi (te_Q bs T isb sv a b c0) (fun (u : mx_T × Int32 × (Nat → Int32) × (Nat → Int32) × (Nat → Int32) × (Nat → Int32)) t7 => match u with | (T2, th2, isu2, pls2, msg2, at2) => va_P (dC, dI) vwCl [(mA 0, .inr (4, [.int th2, .ref (mA 1), .ref (mA 2), .ref (mA 3), .int (nI (mx_n T2)), .int (nI (mx_m F)), .ref (mA 4), .ref (mA 5), .ref (mA 6), .ref (mA 7), .ref (mA 8), .ref (mA 9), .int jo, .ref (mA 10), .ref (mA 11)])), (mA 2, .inl (cZ, 16, .inl isu2)), (mA 3, .inl (cI, 16, .inl pls2)), (mA 4, .inl (cI, 60, .inl msg2)), (mA 5, .inl (cI, 180, .inl at2))] t7.heap ∧ va_K (dC, dI) vwCl [(cI, .int), (cJ, .long), (cZ, .boolean)] t7 ∧ va_D (va_A [(mA 0, .inr (4, [.int th, .ref (mA 1), .ref (mA 2), .ref (mA 3), .int (nI (mx_n T)), .int (nI (mx_m F)), .ref (mA 4), .ref (mA 5), .ref (mA 6), .ref (mA 7), .ref (mA 8), .ref (mA 9), .int jo, .ref (mA 10), .ref (mA 11)])), (mA 2, .inl (cZ, 16, .inl isu)), (mA 3, .inl (cI, 16, .inl pls)), (mA 4, .inl (cI, 60, .inl msg)), (mA 5, .inl (cI, 180, .inl at_))] sz) [(mA 0, .inr (4, [.int th2, .ref (mA 1), .ref (mA 2), .ref (mA 3), .int (nI (mx_n T2)), .int (nI (mx_m F)), .ref (mA 4), .ref (mA 5), .ref (mA 6), .ref (mA 7), .ref (mA 8), .ref (mA 9), .int jo, .ref (mA 10), .ref (mA 11)])), (mA 2, .inl (cZ, 16, .inl isu2)), (mA 3, .inl (cI, 16, .inl pls2)), (mA 4, .inl (cI, 60, .inl msg2)), (mA 5, .inl (cI, 180, .inl at2))]) (va_A [(mA 0, .inr (4, [.int th, .ref (mA 1), .ref (mA 2), .ref (mA 3), .int (nI (mx_n T)), .int (nI (mx_m F)), .ref (mA 4), .ref (mA 5), .ref (mA 6), .ref (mA 7), .ref (mA 8), .ref (mA 9), .int jo, .ref (mA 10), .ref (mA 11)])), (mA 2, .inl (cZ, 16, .inl isu)), (mA 3, .inl (cI, 16, .inl pls)), (mA 4, .inl (cI, 60, .inl msg)), (mA 5, .inl (cI, 180, .inl at_))] sz)) 0 0 (va_A [(mA 0, .inr (4, [.int th, .ref (mA 1), .ref (mA 2), .ref (mA 3), .int (nI (mx_n T)), .int (nI (mx_m F)), .ref (mA 4), .ref (mA 5), .ref (mA 6), .ref (mA 7), .ref (mA 8), .ref (mA 9), .int jo, .ref (mA 10), .ref (mA 11)])), (mA 2, .inl (cZ, 16, .inl isu)), (mA 3, .inl (cI, 16, .inl pls)), (mA 4, .inl (cI, 60, .inl msg)), (mA 5, .inl (cI, 180, .inl at_))] sz) := by
  refine Met.ofW (cc := cX4_term) (maxL := 10) (ret := (some .int)) (by decide) rfl ?_
  intro p e s m args below meth c s₁ B hml hv
  obtain ⟨rfl, hsz, hP, hK, hD0⟩ := hv
  have hx := B.exec
  have hb := B.bytes
  have hr := B.returns
  have hts := atoms_spec (ws := wsX4_term) B.pre
  have hown : s.vm.findClass RX4 = some m.cls := findClass_of_methodNamed B.named
  have hlocks := B.notSynchronized
  subst hsz
  have hD := hD0.self (sz := s.heap.size)
  generalize hAe : va_A [(mA 0, .inr (4, [.int th, .ref (mA 1), .ref (mA 2), .ref (mA 3), .int (nI (mx_n T)), .int (nI (mx_m F)), .ref (mA 4), .ref (mA 5), .ref (mA 6), .ref (mA 7), .ref (mA 8), .ref (mA 9), .int jo, .ref (mA 10), .ref (mA 11)])), (mA 2, .inl (cZ, 16, .inl isu)), (mA 3, .inl (cI, 16, .inl pls)), (mA 4, .inl (cI, 60, .inl msg)), (mA 5, .inl (cI, 180, .inl at_))] s.heap.size = A at hD ⊢
  have hA : ∀ q : Nat, s.heap.size ≤ q → A q := fun q h => by rw [← hAe]; exact Or.inr h
  have hS : va_S A s.heap s.heap [] := va_S.rf
  have hP : va_P (dC, dI) vwCl [(mA 0, .inr (4, [.int th, .ref (mA 1), .ref (mA 2), .ref (mA 3), .int (nI (mx_n T)), .int (nI (mx_m F)), .ref (mA 4), .ref (mA 5), .ref (mA 6), .ref (mA 7), .ref (mA 8), .ref (mA 9), .int jo, .ref (mA 10), .ref (mA 11)])), (mA 2, .inl (cZ, 16, .inl isu)), (mA 3, .inl (cI, 16, .inl pls)), (mA 4, .inl (cI, 60, .inl msg)), (mA 5, .inl (cI, 180, .inl at_))] s.heap := hP
  have hl := lv_entry ([.ref (mA 0), .int sv, .int a, .int b, .int c0]) (n := 10) (Nat.le_of_ble_eq_true rfl)
  rw [lg_entry_eq]
  generalize (lg_sl ([.ref (mA 0), .int sv, .int a, .int b, .int c0]) ++ List.replicate (10 - (lg_sl ([.ref (mA 0), .int sv, .int a, .int b, .int c0])).length) Slot.unset).toArray = ls at hl ⊢
  have hl : lv_has ls 10 [(0, .ref (mA 0)), (1, .int sv), (2, .int a), (3, .int b), (4, .int c0)] := hl
  refine lv_aload_n hx hb dX4_term_0 rfl (lv_at hl 0 rfl) ?_
  refine lv_iload_n hx hb dX4_term_1 rfl (lv_at hl 2 rfl) ?_
  refine lv_iload_n hx hb dX4_term_2 rfl (lv_at hl 3 rfl) ?_
  refine lv_iload hx hb dX4_term_3 (lv_at hl 4 rfl) ?_
  have hPc := hP.sub (ws' := [(mA 0, .inr (4, [.int th, .ref (mA 1), .ref (mA 2), .ref (mA 3), .int (nI (mx_n T)), .int (nI (mx_m F)), .ref (mA 4), .ref (mA 5), .ref (mA 6), .ref (mA 7), .ref (mA 8), .ref (mA 9), .int jo, .ref (mA 10), .ref (mA 11)]))]) [0] rfl
  refine vp_callSi (W.runV (As := [.int a, .int b, .int c0]) (rest := []) ⟨hx, hb, hml, hown, hts⟩ (m_counted l dC dI cI cJ cZ T F mA th jo a b c0 hn) (cwV 3 hts (w0_goodV woX4_term wd_554 wd_551 wd_553 ws_12 wd_5) rfl rfl rfl (by decide +kernel) ⟨Nat.le_of_ble_eq_true rfl, Nat.le_of_ble_eq_true rfl⟩) ⟨fun a U g mk q => by obtain ⟨q0, qP, qK⟩ := q; exact ⟨q0, qP, va_K.moved (u := U) (U := U.calling g mk a) (Vm.Alike.refl U.vm) qK⟩, va_recv hK hP (ci := 4) (q0 := 0) rfl rfl, fun U hU hW => ⟨rfl, by rw [hU]; exact hPc, va_K.moved hW.alike hK⟩⟩ rfl rfl hl.1 rfl (lv_room (Nat.le_of_ble_eq_true rfl)) dX4_term_5 ⟨Nat.zero_le _, Nat.zero_le _⟩) (fun nv hnv => ?_)
  refine lv_istore (lv' := [(5, .int nv), (0, .ref (mA 0)), (1, .int sv), (2, .int a), (3, .int b), (4, .int c0)]) hx hb dX4_term_8 hl (by decide) rfl (fun ls hl => ?_)
  refine lv_aload_n hx hb dX4_term_10 rfl (lv_at hl 1 rfl) ?_
  refine lv_iload_n hx hb dX4_term_11 rfl (lv_at hl 2 rfl) ?_
  refine lv_if_lt (tgt := 27) hx hb dX4_term_12 (by decide) (fun c1 => ?_) (fun c1 => ?_)
  · refine lv_iconst (v := 1) hx hb dX4_term_27 (by decide) ?_
    refine lv_goto (tgt := 56) hx hb dX4_term_28 (by decide) ?_
    refine va_put (D := (dC, dI)) (ci := 4) (v := .int 1) (ty := .int) (C := RX4) (T := TX4) (N := 15) hx hb hts (fun w h => woX4_term w (inX4 w h)) tyX4 tyX4_ok nmX4 hown hK hP hD hS 0 rfl rfl 0 (by decide) (hts _ (woX4_term _ wd_493)) (fun _ h9 => h9) rfl (by decide +kernel) rfl rfl (Nat.le_of_ble_eq_true rfl) dX4_term_56 (fun H locs hP hD hS => ?_)
    have hP : va_P (dC, dI) vwCl [(mA 0, .inr (4, [.int 1, .ref (mA 1), .ref (mA 2), .ref (mA 3), .int (nI (mx_n T)), .int (nI (mx_m F)), .ref (mA 4), .ref (mA 5), .ref (mA 6), .ref (mA 7), .ref (mA 8), .ref (mA 9), .int jo, .ref (mA 10), .ref (mA 11)])), (mA 2, .inl (cZ, 16, .inl isu)), (mA 3, .inl (cI, 16, .inl pls)), (mA 4, .inl (cI, 60, .inl msg)), (mA 5, .inl (cI, 180, .inl at_))] H := hP
    have hD : va_D A [(mA 0, .inr (4, [.int 1, .ref (mA 1), .ref (mA 2), .ref (mA 3), .int (nI (mx_n T)), .int (nI (mx_m F)), .ref (mA 4), .ref (mA 5), .ref (mA 6), .ref (mA 7), .ref (mA 8), .ref (mA 9), .int jo, .ref (mA 10), .ref (mA 11)])), (mA 2, .inl (cZ, 16, .inl isu)), (mA 3, .inl (cI, 16, .inl pls)), (mA 4, .inl (cI, 60, .inl msg)), (mA 5, .inl (cI, 180, .inl at_))] := hD
    refine lv_aload_n hx hb dX4_term_59 rfl (lv_at hl 1 rfl) ?_
    refine va_get (D := (dC, dI)) (ci := 4) (v := .int 1) (C := RX4) (T := TX4) (N := 15) hx hb hts (fun w h => woX4_term w (inX4 w h)) hown hK hP 0 rfl rfl 0 (by decide) (hts _ (woX4_term _ wd_493)) (fun _ h9 => h9) rfl dX4_term_60 ?_
    refine lv_if_le (tgt := 68) hx hb dX4_term_63 (by decide) (fun c9 => ?_) (fun c9 => ?_)
    · exact absurd c9 (by decide)
    · refine lv_iconst (v := 0) hx hb dX4_term_66 (by decide) ?_
      have hP9 := hP.sub (ws' := [(mA 0, .inr (4, [.int 1, .ref (mA 1), .ref (mA 2), .ref (mA 3), .int (nI (mx_n T)), .int (nI (mx_m F)), .ref (mA 4), .ref (mA 5), .ref (mA 6), .ref (mA 7), .ref (mA 8), .ref (mA 9), .int jo, .ref (mA 10), .ref (mA 11)])), (mA 2, .inl (cZ, 16, .inl isu)), (mA 3, .inl (cI, 16, .inl pls)), (mA 4, .inl (cI, 60, .inl msg)), (mA 5, .inl (cI, 180, .inl at_))]) [0, 1, 2, 3, 4] rfl
      have hD9 := hD.sub (ws' := [(mA 0, .inr (4, [.int 1, .ref (mA 1), .ref (mA 2), .ref (mA 3), .int (nI (mx_n T)), .int (nI (mx_m F)), .ref (mA 4), .ref (mA 5), .ref (mA 6), .ref (mA 7), .ref (mA 8), .ref (mA 9), .int jo, .ref (mA 10), .ref (mA 11)])), (mA 2, .inl (cZ, 16, .inl isu)), (mA 3, .inl (cI, 16, .inl pls)), (mA 4, .inl (cI, 60, .inl msg)), (mA 5, .inl (cI, 180, .inl at_))]) [0, 1, 2, 3, 4] (by decide) rfl
      exact W.iret (v := 0) hx hb hr (fun t9 ht9 hW9 => ⟨⟨0, (T, 1, isu, pls, msg, at_), rfl, ⟨te_none (ix_lo (by decide) c1), hmt, hU⟩, by rw [ht9]; exact hP9, va_K.moved hW9.alike hK, hD9⟩, hS.F ht9⟩) hS.2.2 dX4_term_67
  · refine lv_iload_n hx hb dX4_term_15 rfl (lv_at hl 2 rfl) ?_
    refine lv_bipush (v := 16) hx hb dX4_term_16 (by decide) ?_
    refine lv_icmp_ge (tgt := 27) hx hb dX4_term_18 (by decide) (fun c2 => ?_) (fun c2 => ?_)
    · refine lv_iconst (v := 1) hx hb dX4_term_27 (by decide) ?_
      refine lv_goto (tgt := 56) hx hb dX4_term_28 (by decide) ?_
      refine va_put (D := (dC, dI)) (ci := 4) (v := .int 1) (ty := .int) (C := RX4) (T := TX4) (N := 15) hx hb hts (fun w h => woX4_term w (inX4 w h)) tyX4 tyX4_ok nmX4 hown hK hP hD hS 0 rfl rfl 0 (by decide) (hts _ (woX4_term _ wd_493)) (fun _ h9 => h9) rfl (by decide +kernel) rfl rfl (Nat.le_of_ble_eq_true rfl) dX4_term_56 (fun H locs hP hD hS => ?_)
      have hP : va_P (dC, dI) vwCl [(mA 0, .inr (4, [.int 1, .ref (mA 1), .ref (mA 2), .ref (mA 3), .int (nI (mx_n T)), .int (nI (mx_m F)), .ref (mA 4), .ref (mA 5), .ref (mA 6), .ref (mA 7), .ref (mA 8), .ref (mA 9), .int jo, .ref (mA 10), .ref (mA 11)])), (mA 2, .inl (cZ, 16, .inl isu)), (mA 3, .inl (cI, 16, .inl pls)), (mA 4, .inl (cI, 60, .inl msg)), (mA 5, .inl (cI, 180, .inl at_))] H := hP
      have hD : va_D A [(mA 0, .inr (4, [.int 1, .ref (mA 1), .ref (mA 2), .ref (mA 3), .int (nI (mx_n T)), .int (nI (mx_m F)), .ref (mA 4), .ref (mA 5), .ref (mA 6), .ref (mA 7), .ref (mA 8), .ref (mA 9), .int jo, .ref (mA 10), .ref (mA 11)])), (mA 2, .inl (cZ, 16, .inl isu)), (mA 3, .inl (cI, 16, .inl pls)), (mA 4, .inl (cI, 60, .inl msg)), (mA 5, .inl (cI, 180, .inl at_))] := hD
      refine lv_aload_n hx hb dX4_term_59 rfl (lv_at hl 1 rfl) ?_
      refine va_get (D := (dC, dI)) (ci := 4) (v := .int 1) (C := RX4) (T := TX4) (N := 15) hx hb hts (fun w h => woX4_term w (inX4 w h)) hown hK hP 0 rfl rfl 0 (by decide) (hts _ (woX4_term _ wd_493)) (fun _ h9 => h9) rfl dX4_term_60 ?_
      refine lv_if_le (tgt := 68) hx hb dX4_term_63 (by decide) (fun c9 => ?_) (fun c9 => ?_)
      · exact absurd c9 (by decide)
      · refine lv_iconst (v := 0) hx hb dX4_term_66 (by decide) ?_
        have hP9 := hP.sub (ws' := [(mA 0, .inr (4, [.int 1, .ref (mA 1), .ref (mA 2), .ref (mA 3), .int (nI (mx_n T)), .int (nI (mx_m F)), .ref (mA 4), .ref (mA 5), .ref (mA 6), .ref (mA 7), .ref (mA 8), .ref (mA 9), .int jo, .ref (mA 10), .ref (mA 11)])), (mA 2, .inl (cZ, 16, .inl isu)), (mA 3, .inl (cI, 16, .inl pls)), (mA 4, .inl (cI, 60, .inl msg)), (mA 5, .inl (cI, 180, .inl at_))]) [0, 1, 2, 3, 4] rfl
        have hD9 := hD.sub (ws' := [(mA 0, .inr (4, [.int 1, .ref (mA 1), .ref (mA 2), .ref (mA 3), .int (nI (mx_n T)), .int (nI (mx_m F)), .ref (mA 4), .ref (mA 5), .ref (mA 6), .ref (mA 7), .ref (mA 8), .ref (mA 9), .int jo, .ref (mA 10), .ref (mA 11)])), (mA 2, .inl (cZ, 16, .inl isu)), (mA 3, .inl (cI, 16, .inl pls)), (mA 4, .inl (cI, 60, .inl msg)), (mA 5, .inl (cI, 180, .inl at_))]) [0, 1, 2, 3, 4] (by decide) rfl
        exact W.iret (v := 0) hx hb hr (fun t9 ht9 hW9 => ⟨⟨0, (T, 1, isu, pls, msg, at_), rfl, ⟨te_none (ix_hi (y := 16) (by decide) rfl c2), hmt, hU⟩, by rw [ht9]; exact hP9, va_K.moved hW9.alike hK, hD9⟩, hS.F ht9⟩) hS.2.2 dX4_term_67
    · obtain ⟨s0, hs0, rfl⟩ := ix_in (y := 16) (n := 16) (by decide) rfl c1 c2
      refine lv_iload hx hb dX4_term_21 (lv_at hl 0 rfl) ?_
      refine lv_iconst (v := 4) hx hb dX4_term_23 (by decide) ?_
      refine lv_icmp_ne (tgt := 31) hx hb dX4_term_24 (by decide) (fun c3 => ?_) (fun c3 => ?_)
      · obtain ⟨qa, qb, qc, htp, rfl⟩ : ∃ qa qb qc, tp_ok (mx_n T) a b c0 qa qb qc ∧ nv = nI (q_ar qa qb qc) := hnv.elim id (fun q => absurd q.1 c3)
        obtain ⟨ha, hbq, hc, hn1, hn2⟩ := tp_in htp
        have har := q_ar_le qa qb qc
        have hU0 := hU s0 hs0
        refine lv_aload_n hx hb dX4_term_31 rfl (lv_at hl 1 rfl) ?_
        refine va_get (D := (dC, dI)) (ci := 4) (v := .ref (mA 2)) (C := RX4) (T := TX4) (N := 15) hx hb hts (fun w h => woX4_term w (inX4 w h)) hown hK hP 0 rfl rfl 2 (by decide) (hts _ (woX4_term _ wd_495)) (fun _ h9 => h9) rfl dX4_term_32 ?_
        refine lv_iload_n hx hb dX4_term_35 rfl (lv_at hl 2 rfl) ?_
        refine va_zald hx hb hK hP 1 2 rfl rfl (vp_in_nI (by omega) (by omega)) dX4_term_36 ?_
        rw [show (nI s0).toNatClampNeg = s0 from nI_clamp (by omega)]
        refine lv_if_eq (tgt := 55) hx hb dX4_term_37 (by decide) (fun c4 => ?_) (fun c4 => ?_)
        · have hmis : ¬ te_mis T s0 qa qb qc := fun ⟨t, q1, q2, _⟩ => zb_f hU0 c4 ⟨t, q1, q2⟩
          refine lv_iconst (v := 0) hx hb dX4_term_55 (by decide) ?_
          refine va_put (D := (dC, dI)) (ci := 4) (v := .int 0) (ty := .int) (C := RX4) (T := TX4) (N := 15) hx hb hts (fun w h => woX4_term w (inX4 w h)) tyX4 tyX4_ok nmX4 hown hK hP hD hS 0 rfl rfl 0 (by decide) (hts _ (woX4_term _ wd_493)) (fun _ h9 => h9) rfl (by decide +kernel) rfl rfl (Nat.le_of_ble_eq_true rfl) dX4_term_56 (fun H locs hP hD hS => ?_)
          have hP : va_P (dC, dI) vwCl [(mA 0, .inr (4, [.int 0, .ref (mA 1), .ref (mA 2), .ref (mA 3), .int (nI (mx_n T)), .int (nI (mx_m F)), .ref (mA 4), .ref (mA 5), .ref (mA 6), .ref (mA 7), .ref (mA 8), .ref (mA 9), .int jo, .ref (mA 10), .ref (mA 11)])), (mA 2, .inl (cZ, 16, .inl isu)), (mA 3, .inl (cI, 16, .inl pls)), (mA 4, .inl (cI, 60, .inl msg)), (mA 5, .inl (cI, 180, .inl at_))] H := hP
          have hD : va_D A [(mA 0, .inr (4, [.int 0, .ref (mA 1), .ref (mA 2), .ref (mA 3), .int (nI (mx_n T)), .int (nI (mx_m F)), .ref (mA 4), .ref (mA 5), .ref (mA 6), .ref (mA 7), .ref (mA 8), .ref (mA 9), .int jo, .ref (mA 10), .ref (mA 11)])), (mA 2, .inl (cZ, 16, .inl isu)), (mA 3, .inl (cI, 16, .inl pls)), (mA 4, .inl (cI, 60, .inl msg)), (mA 5, .inl (cI, 180, .inl at_))] := hD
          refine lv_aload_n hx hb dX4_term_59 rfl (lv_at hl 1 rfl) ?_
          refine va_get (D := (dC, dI)) (ci := 4) (v := .int 0) (C := RX4) (T := TX4) (N := 15) hx hb hts (fun w h => woX4_term w (inX4 w h)) hown hK hP 0 rfl rfl 0 (by decide) (hts _ (woX4_term _ wd_493)) (fun _ h9 => h9) rfl dX4_term_60 ?_
          refine lv_if_le (tgt := 68) hx hb dX4_term_63 (by decide) (fun c9 => ?_) (fun c9 => ?_)
          · refine te_x hx hb hown hts hK htp hP hml (fun  ls  hl => ?_) 0  _ rfl  (lv_sub hl [1, 2, 0, 3, 4, 5] rfl)
            refine lv_iconst (v := 0) hx hb dX4_term_107 (by decide) ?_
            refine lv_istore (lv' := [(9, .int 0), (0, .ref (mA 0)), (1, .int (nI s0)), (5, .int (nI (q_ar qa qb qc))), (6, .int (mx_enc qa)), (7, .int (mx_enc qb)), (8, .int (mx_enc qc))]) hx hb dX4_term_108 hl (by decide) rfl (fun ls hl => ?_)
            refine te_l hx hb hown hts hK hw hpf hn hmt hs0 ha hbq hc hP hml (fun t ls hI9 ht9 hl => ?_) (mx_n T) 0 _ (by omega) (Nat.zero_le _) (fun u hu => absurd hu (Nat.not_lt_zero u)) (lv_sub hl [1, 2, 3, 4, 5, 6, 0] rfl)
            refine lv_iload hx hb dX4_term_182 (lv_at hl 6 rfl) ?_
            refine lv_aload_n hx hb dX4_term_184 rfl (lv_at hl 0 rfl) ?_
            refine va_get (D := (dC, dI)) (ci := 4) (v := .int (nI (mx_n T))) (C := RX4) (T := TX4) (N := 15) hx hb hts (fun w h => woX4_term w (inX4 w h)) hown hK hP 0 rfl rfl 4 (by decide) (hts _ (woX4_term _ wd_497)) (fun _ h9 => h9) rfl dX4_term_185 ?_
            refine lv_icmp_ge (tgt := 194) hx hb dX4_term_188 (by decide) (fun c10 => ?_) (fun c10 => ?_)
            · have etn : t = mx_n T := ht9.resolve_right (fun q => absurd c10 (nI_ge q.1 (by omega)))
              subst etn
              refine lv_aload_n hx hb dX4_term_194 rfl (lv_at hl 0 rfl) ?_
              refine lv_aload_n hx hb dX4_term_195 rfl (lv_at hl 0 rfl) ?_
              refine va_get (D := (dC, dI)) (ci := 4) (v := .int (nI (mx_n T))) (C := RX4) (T := TX4) (N := 15) hx hb hts (fun w h => woX4_term w (inX4 w h)) hown hK hP 0 rfl rfl 4 (by decide) (hts _ (woX4_term _ wd_497)) (fun _ h9 => h9) rfl dX4_term_196 ?_
              refine lv_bipush (v := 60) hx hb dX4_term_199 (by decide) ?_
              refine lv_icmp_ne (tgt := 208) hx hb dX4_term_201 (by decide) (fun c11 => ?_) (fun c11 => ?_)
              · have hlt : mx_n T < 60 := by have : ¬ mx_n T = 60 := fun q => c11 (by rw [q]; rfl); omega
                refine lv_iconst (v := 0) hx hb dX4_term_208 (by decide) ?_
                refine va_put (D := (dC, dI)) (ci := 4) (v := .int 0) (ty := .int) (C := RX4) (T := TX4) (N := 15) hx hb hts (fun w h => woX4_term w (inX4 w h)) tyX4 tyX4_ok nmX4 hown hK hP hD hS 0 rfl rfl 0 (by decide) (hts _ (woX4_term _ wd_493)) (fun _ h9 => h9) rfl (by decide +kernel) rfl rfl (Nat.le_of_ble_eq_true rfl) dX4_term_209 (fun H locs hP hD hS => ?_)
                have hP : va_P (dC, dI) vwCl [(mA 0, .inr (4, [.int 0, .ref (mA 1), .ref (mA 2), .ref (mA 3), .int (nI (mx_n T)), .int (nI (mx_m F)), .ref (mA 4), .ref (mA 5), .ref (mA 6), .ref (mA 7), .ref (mA 8), .ref (mA 9), .int jo, .ref (mA 10), .ref (mA 11)])), (mA 2, .inl (cZ, 16, .inl isu)), (mA 3, .inl (cI, 16, .inl pls)), (mA 4, .inl (cI, 60, .inl msg)), (mA 5, .inl (cI, 180, .inl at_))] H := hP
                have hD : va_D A [(mA 0, .inr (4, [.int 0, .ref (mA 1), .ref (mA 2), .ref (mA 3), .int (nI (mx_n T)), .int (nI (mx_m F)), .ref (mA 4), .ref (mA 5), .ref (mA 6), .ref (mA 7), .ref (mA 8), .ref (mA 9), .int jo, .ref (mA 10), .ref (mA 11)])), (mA 2, .inl (cZ, 16, .inl isu)), (mA 3, .inl (cI, 16, .inl pls)), (mA 4, .inl (cI, 60, .inl msg)), (mA 5, .inl (cI, 180, .inl at_))] := hD
                refine lv_aload_n hx hb dX4_term_212 rfl (lv_at hl 0 rfl) ?_
                refine va_get (D := (dC, dI)) (ci := 4) (v := .int 0) (C := RX4) (T := TX4) (N := 15) hx hb hts (fun w h => woX4_term w (inX4 w h)) hown hK hP 0 rfl rfl 0 (by decide) (hts _ (woX4_term _ wd_493)) (fun _ h9 => h9) rfl dX4_term_213 ?_
                refine lv_if_le (tgt := 221) hx hb dX4_term_216 (by decide) (fun c12 => ?_) (fun c12 => ?_)
                · refine lv_aload_n hx hb dX4_term_221 rfl (lv_at hl 0 rfl) ?_
                  refine va_get (D := (dC, dI)) (ci := 4) (v := .ref (mA 2)) (C := RX4) (T := TX4) (N := 15) hx hb hts (fun w h => woX4_term w (inX4 w h)) hown hK hP 0 rfl rfl 2 (by decide) (hts _ (woX4_term _ wd_495)) (fun _ h9 => h9) rfl dX4_term_222 ?_
                  refine lv_iload_n hx hb dX4_term_225 rfl (lv_at hl 1 rfl) ?_
                  refine lv_iconst (v := 1) hx hb dX4_term_226 (by decide) ?_
                  refine va_zast hx hb hK hP hD hS 1 2 rfl rfl (vp_in_nI (by omega) (by omega)) dX4_term_227 (fun H locs hP hD hS => ?_)
                  rw [show (nI s0).toNatClampNeg = s0 from nI_clamp (by omega)] at hP hD
                  rw [show vp_nar .boolean 1 = 1 from by decide] at hP hD
                  have hP : va_P (dC, dI) vwCl [(mA 0, .inr (4, [.int 0, .ref (mA 1), .ref (mA 2), .ref (mA 3), .int (nI (mx_n T)), .int (nI (mx_m F)), .ref (mA 4), .ref (mA 5), .ref (mA 6), .ref (mA 7), .ref (mA 8), .ref (mA 9), .int jo, .ref (mA 10), .ref (mA 11)])), (mA 2, .inl (cZ, 16, .inl (upd isu s0 1))), (mA 3, .inl (cI, 16, .inl pls)), (mA 4, .inl (cI, 60, .inl msg)), (mA 5, .inl (cI, 180, .inl at_))] H := hP
                  have hD : va_D A [(mA 0, .inr (4, [.int 0, .ref (mA 1), .ref (mA 2), .ref (mA 3), .int (nI (mx_n T)), .int (nI (mx_m F)), .ref (mA 4), .ref (mA 5), .ref (mA 6), .ref (mA 7), .ref (mA 8), .ref (mA 9), .int jo, .ref (mA 10), .ref (mA 11)])), (mA 2, .inl (cZ, 16, .inl (upd isu s0 1))), (mA 3, .inl (cI, 16, .inl pls)), (mA 4, .inl (cI, 60, .inl msg)), (mA 5, .inl (cI, 180, .inl at_))] := hD
                  refine lv_aload_n hx hb dX4_term_228 rfl (lv_at hl 0 rfl) ?_
                  refine va_get (D := (dC, dI)) (ci := 4) (v := .ref (mA 3)) (C := RX4) (T := TX4) (N := 15) hx hb hts (fun w h => woX4_term w (inX4 w h)) hown hK hP 0 rfl rfl 3 (by decide) (hts _ (woX4_term _ wd_496)) (fun _ h9 => h9) rfl dX4_term_229 ?_
                  refine lv_iload_n hx hb dX4_term_232 rfl (lv_at hl 1 rfl) ?_
                  refine lv_iload hx hb dX4_term_233 (lv_at hl 2 rfl) ?_
                  refine va_iast hx hb hK hP hD hS 2 0 rfl rfl (vp_in_nI (by omega) (by omega)) dX4_term_235 (fun H locs hP hD hS => ?_)
                  rw [show (nI s0).toNatClampNeg = s0 from nI_clamp (by omega)] at hP hD
                  have hP : va_P (dC, dI) vwCl [(mA 0, .inr (4, [.int 0, .ref (mA 1), .ref (mA 2), .ref (mA 3), .int (nI (mx_n T)), .int (nI (mx_m F)), .ref (mA 4), .ref (mA 5), .ref (mA 6), .ref (mA 7), .ref (mA 8), .ref (mA 9), .int jo, .ref (mA 10), .ref (mA 11)])), (mA 2, .inl (cZ, 16, .inl (upd isu s0 1))), (mA 3, .inl (cI, 16, .inl (upd pls s0 (nI (q_ar qa qb qc))))), (mA 4, .inl (cI, 60, .inl msg)), (mA 5, .inl (cI, 180, .inl at_))] H := hP
                  have hD : va_D A [(mA 0, .inr (4, [.int 0, .ref (mA 1), .ref (mA 2), .ref (mA 3), .int (nI (mx_n T)), .int (nI (mx_m F)), .ref (mA 4), .ref (mA 5), .ref (mA 6), .ref (mA 7), .ref (mA 8), .ref (mA 9), .int jo, .ref (mA 10), .ref (mA 11)])), (mA 2, .inl (cZ, 16, .inl (upd isu s0 1))), (mA 3, .inl (cI, 16, .inl (upd pls s0 (nI (q_ar qa qb qc))))), (mA 4, .inl (cI, 60, .inl msg)), (mA 5, .inl (cI, 180, .inl at_))] := hD
                  refine lv_aload_n hx hb dX4_term_236 rfl (lv_at hl 0 rfl) ?_
                  refine va_get (D := (dC, dI)) (ci := 4) (v := .ref (mA 4)) (C := RX4) (T := TX4) (N := 15) hx hb hts (fun w h => woX4_term w (inX4 w h)) hown hK hP 0 rfl rfl 6 (by decide) (hts _ (woX4_term _ wd_499)) (fun _ h9 => h9) rfl dX4_term_237 ?_
                  refine lv_iload hx hb dX4_term_240 (lv_at hl 6 rfl) ?_
                  refine lv_iload_n hx hb dX4_term_242 rfl (lv_at hl 1 rfl) ?_
                  refine va_iast hx hb hK hP hD hS 3 0 rfl rfl (vp_in_nI (by omega) (by omega)) dX4_term_243 (fun H locs hP hD hS => ?_)
                  rw [show (nI (mx_n T)).toNatClampNeg = (mx_n T) from nI_clamp (by omega)] at hP hD
                  have hP : va_P (dC, dI) vwCl [(mA 0, .inr (4, [.int 0, .ref (mA 1), .ref (mA 2), .ref (mA 3), .int (nI (mx_n T)), .int (nI (mx_m F)), .ref (mA 4), .ref (mA 5), .ref (mA 6), .ref (mA 7), .ref (mA 8), .ref (mA 9), .int jo, .ref (mA 10), .ref (mA 11)])), (mA 2, .inl (cZ, 16, .inl (upd isu s0 1))), (mA 3, .inl (cI, 16, .inl (upd pls s0 (nI (q_ar qa qb qc))))), (mA 4, .inl (cI, 60, .inl (upd msg (mx_n T) (nI s0)))), (mA 5, .inl (cI, 180, .inl at_))] H := hP
                  have hD : va_D A [(mA 0, .inr (4, [.int 0, .ref (mA 1), .ref (mA 2), .ref (mA 3), .int (nI (mx_n T)), .int (nI (mx_m F)), .ref (mA 4), .ref (mA 5), .ref (mA 6), .ref (mA 7), .ref (mA 8), .ref (mA 9), .int jo, .ref (mA 10), .ref (mA 11)])), (mA 2, .inl (cZ, 16, .inl (upd isu s0 1))), (mA 3, .inl (cI, 16, .inl (upd pls s0 (nI (q_ar qa qb qc))))), (mA 4, .inl (cI, 60, .inl (upd msg (mx_n T) (nI s0)))), (mA 5, .inl (cI, 180, .inl at_))] := hD
                  refine lv_aload_n hx hb dX4_term_244 rfl (lv_at hl 0 rfl) ?_
                  refine va_get (D := (dC, dI)) (ci := 4) (v := .ref (mA 5)) (C := RX4) (T := TX4) (N := 15) hx hb hts (fun w h => woX4_term w (inX4 w h)) hown hK hP 0 rfl rfl 7 (by decide) (hts _ (woX4_term _ wd_500)) (fun _ h9 => h9) rfl dX4_term_245 ?_
                  refine lv_iconst (v := 3) hx hb dX4_term_248 (by decide) ?_
                  refine lv_iload hx hb dX4_term_249 (lv_at hl 6 rfl) ?_
                  refine lv_imul hx hb dX4_term_251 ?_
                  rw [ix3z]
                  refine lv_iload hx hb dX4_term_252 (lv_at hl 3 rfl) ?_
                  refine va_iast hx hb hK hP hD hS 4 0 rfl rfl (vp_in_nI (by omega) (by omega)) dX4_term_254 (fun H locs hP hD hS => ?_)
                  rw [show (nI (3 * mx_n T)).toNatClampNeg = (3 * mx_n T) from nI_clamp (by omega)] at hP hD
                  have hP : va_P (dC, dI) vwCl [(mA 0, .inr (4, [.int 0, .ref (mA 1), .ref (mA 2), .ref (mA 3), .int (nI (mx_n T)), .int (nI (mx_m F)), .ref (mA 4), .ref (mA 5), .ref (mA 6), .ref (mA 7), .ref (mA 8), .ref (mA 9), .int jo, .ref (mA 10), .ref (mA 11)])), (mA 2, .inl (cZ, 16, .inl (upd isu s0 1))), (mA 3, .inl (cI, 16, .inl (upd pls s0 (nI (q_ar qa qb qc))))), (mA 4, .inl (cI, 60, .inl (upd msg (mx_n T) (nI s0)))), (mA 5, .inl (cI, 180, .inl (upd at_ (3 * mx_n T) (mx_enc qa))))] H := hP
                  have hD : va_D A [(mA 0, .inr (4, [.int 0, .ref (mA 1), .ref (mA 2), .ref (mA 3), .int (nI (mx_n T)), .int (nI (mx_m F)), .ref (mA 4), .ref (mA 5), .ref (mA 6), .ref (mA 7), .ref (mA 8), .ref (mA 9), .int jo, .ref (mA 10), .ref (mA 11)])), (mA 2, .inl (cZ, 16, .inl (upd isu s0 1))), (mA 3, .inl (cI, 16, .inl (upd pls s0 (nI (q_ar qa qb qc))))), (mA 4, .inl (cI, 60, .inl (upd msg (mx_n T) (nI s0)))), (mA 5, .inl (cI, 180, .inl (upd at_ (3 * mx_n T) (mx_enc qa))))] := hD
                  refine lv_aload_n hx hb dX4_term_255 rfl (lv_at hl 0 rfl) ?_
                  refine va_get (D := (dC, dI)) (ci := 4) (v := .ref (mA 5)) (C := RX4) (T := TX4) (N := 15) hx hb hts (fun w h => woX4_term w (inX4 w h)) hown hK hP 0 rfl rfl 7 (by decide) (hts _ (woX4_term _ wd_500)) (fun _ h9 => h9) rfl dX4_term_256 ?_
                  refine lv_iconst (v := 3) hx hb dX4_term_259 (by decide) ?_
                  refine lv_iload hx hb dX4_term_260 (lv_at hl 6 rfl) ?_
                  refine lv_imul hx hb dX4_term_262 ?_
                  rw [ix3z]
                  refine lv_iconst (v := 1) hx hb dX4_term_263 (by decide) ?_
                  refine lv_iadd hx hb dX4_term_264 ?_
                  rw [ix3a]
                  refine lv_iload hx hb dX4_term_265 (lv_at hl 4 rfl) ?_
                  refine va_iast hx hb hK hP hD hS 4 0 rfl rfl (vp_in_nI (by omega) (by omega)) dX4_term_267 (fun H locs hP hD hS => ?_)
                  rw [show (nI (3 * mx_n T + 1)).toNatClampNeg = (3 * mx_n T + 1) from nI_clamp (by omega)] at hP hD
                  have hP : va_P (dC, dI) vwCl [(mA 0, .inr (4, [.int 0, .ref (mA 1), .ref (mA 2), .ref (mA 3), .int (nI (mx_n T)), .int (nI (mx_m F)), .ref (mA 4), .ref (mA 5), .ref (mA 6), .ref (mA 7), .ref (mA 8), .ref (mA 9), .int jo, .ref (mA 10), .ref (mA 11)])), (mA 2, .inl (cZ, 16, .inl (upd isu s0 1))), (mA 3, .inl (cI, 16, .inl (upd pls s0 (nI (q_ar qa qb qc))))), (mA 4, .inl (cI, 60, .inl (upd msg (mx_n T) (nI s0)))), (mA 5, .inl (cI, 180, .inl (upd (upd at_ (3 * mx_n T) (mx_enc qa)) (3 * mx_n T + 1) (mx_enc qb))))] H := hP
                  have hD : va_D A [(mA 0, .inr (4, [.int 0, .ref (mA 1), .ref (mA 2), .ref (mA 3), .int (nI (mx_n T)), .int (nI (mx_m F)), .ref (mA 4), .ref (mA 5), .ref (mA 6), .ref (mA 7), .ref (mA 8), .ref (mA 9), .int jo, .ref (mA 10), .ref (mA 11)])), (mA 2, .inl (cZ, 16, .inl (upd isu s0 1))), (mA 3, .inl (cI, 16, .inl (upd pls s0 (nI (q_ar qa qb qc))))), (mA 4, .inl (cI, 60, .inl (upd msg (mx_n T) (nI s0)))), (mA 5, .inl (cI, 180, .inl (upd (upd at_ (3 * mx_n T) (mx_enc qa)) (3 * mx_n T + 1) (mx_enc qb))))] := hD
                  refine lv_aload_n hx hb dX4_term_268 rfl (lv_at hl 0 rfl) ?_
                  refine va_get (D := (dC, dI)) (ci := 4) (v := .ref (mA 5)) (C := RX4) (T := TX4) (N := 15) hx hb hts (fun w h => woX4_term w (inX4 w h)) hown hK hP 0 rfl rfl 7 (by decide) (hts _ (woX4_term _ wd_500)) (fun _ h9 => h9) rfl dX4_term_269 ?_
                  refine lv_iconst (v := 3) hx hb dX4_term_272 (by decide) ?_
                  refine lv_iload hx hb dX4_term_273 (lv_at hl 6 rfl) ?_
                  refine lv_imul hx hb dX4_term_275 ?_
                  rw [ix3z]
                  refine lv_iconst (v := 2) hx hb dX4_term_276 (by decide) ?_
                  refine lv_iadd hx hb dX4_term_277 ?_
                  rw [ix3b]
                  refine lv_iload hx hb dX4_term_278 (lv_at hl 5 rfl) ?_
                  refine va_iast hx hb hK hP hD hS 4 0 rfl rfl (vp_in_nI (by omega) (by omega)) dX4_term_280 (fun H locs hP hD hS => ?_)
                  rw [show (nI (3 * mx_n T + 2)).toNatClampNeg = (3 * mx_n T + 2) from nI_clamp (by omega)] at hP hD
                  have hP : va_P (dC, dI) vwCl [(mA 0, .inr (4, [.int 0, .ref (mA 1), .ref (mA 2), .ref (mA 3), .int (nI (mx_n T)), .int (nI (mx_m F)), .ref (mA 4), .ref (mA 5), .ref (mA 6), .ref (mA 7), .ref (mA 8), .ref (mA 9), .int jo, .ref (mA 10), .ref (mA 11)])), (mA 2, .inl (cZ, 16, .inl (upd isu s0 1))), (mA 3, .inl (cI, 16, .inl (upd pls s0 (nI (q_ar qa qb qc))))), (mA 4, .inl (cI, 60, .inl (upd msg (mx_n T) (nI s0)))), (mA 5, .inl (cI, 180, .inl (upd (upd (upd at_ (3 * mx_n T) (mx_enc qa)) (3 * mx_n T + 1) (mx_enc qb)) (3 * mx_n T + 2) (mx_enc qc))))] H := hP
                  have hD : va_D A [(mA 0, .inr (4, [.int 0, .ref (mA 1), .ref (mA 2), .ref (mA 3), .int (nI (mx_n T)), .int (nI (mx_m F)), .ref (mA 4), .ref (mA 5), .ref (mA 6), .ref (mA 7), .ref (mA 8), .ref (mA 9), .int jo, .ref (mA 10), .ref (mA 11)])), (mA 2, .inl (cZ, 16, .inl (upd isu s0 1))), (mA 3, .inl (cI, 16, .inl (upd pls s0 (nI (q_ar qa qb qc))))), (mA 4, .inl (cI, 60, .inl (upd msg (mx_n T) (nI s0)))), (mA 5, .inl (cI, 180, .inl (upd (upd (upd at_ (3 * mx_n T) (mx_enc qa)) (3 * mx_n T + 1) (mx_enc qb)) (3 * mx_n T + 2) (mx_enc qc))))] := hD
                  refine lv_aload_n hx hb dX4_term_281 rfl (lv_at hl 0 rfl) ?_
                  refine lv_dup hx hb dX4_term_282 rfl ?_
                  refine va_get (D := (dC, dI)) (ci := 4) (v := .int (nI (mx_n T))) (C := RX4) (T := TX4) (N := 15) hx hb hts (fun w h => woX4_term w (inX4 w h)) hown hK hP 0 rfl rfl 4 (by decide) (hts _ (woX4_term _ wd_497)) (fun _ h9 => h9) rfl dX4_term_283 ?_
                  refine lv_iconst (v := 1) hx hb dX4_term_286 (by decide) ?_
                  refine lv_iadd hx hb dX4_term_287 ?_
                  refine lv_topi (fun f_1 ef_1 => ?_)
                  refine va_put (D := (dC, dI)) (ci := 4) (v := .int f_1) (ty := .int) (C := RX4) (T := TX4) (N := 15) hx hb hts (fun w h => woX4_term w (inX4 w h)) tyX4 tyX4_ok nmX4 hown hK hP hD hS 0 rfl rfl 4 (by decide) (hts _ (woX4_term _ wd_497)) (fun _ h9 => h9) rfl (by decide +kernel) rfl rfl (Nat.le_of_ble_eq_true rfl) dX4_term_288 (fun H locs hP hD hS => ?_)
                  have hP : va_P (dC, dI) vwCl [(mA 0, .inr (4, [.int 0, .ref (mA 1), .ref (mA 2), .ref (mA 3), .int f_1, .int (nI (mx_m F)), .ref (mA 4), .ref (mA 5), .ref (mA 6), .ref (mA 7), .ref (mA 8), .ref (mA 9), .int jo, .ref (mA 10), .ref (mA 11)])), (mA 2, .inl (cZ, 16, .inl (upd isu s0 1))), (mA 3, .inl (cI, 16, .inl (upd pls s0 (nI (q_ar qa qb qc))))), (mA 4, .inl (cI, 60, .inl (upd msg (mx_n T) (nI s0)))), (mA 5, .inl (cI, 180, .inl (upd (upd (upd at_ (3 * mx_n T) (mx_enc qa)) (3 * mx_n T + 1) (mx_enc qb)) (3 * mx_n T + 2) (mx_enc qc))))] H := hP
                  have hD : va_D A [(mA 0, .inr (4, [.int 0, .ref (mA 1), .ref (mA 2), .ref (mA 3), .int f_1, .int (nI (mx_m F)), .ref (mA 4), .ref (mA 5), .ref (mA 6), .ref (mA 7), .ref (mA 8), .ref (mA 9), .int jo, .ref (mA 10), .ref (mA 11)])), (mA 2, .inl (cZ, 16, .inl (upd isu s0 1))), (mA 3, .inl (cI, 16, .inl (upd pls s0 (nI (q_ar qa qb qc))))), (mA 4, .inl (cI, 60, .inl (upd msg (mx_n T) (nI s0)))), (mA 5, .inl (cI, 180, .inl (upd (upd (upd at_ (3 * mx_n T) (mx_enc qa)) (3 * mx_n T + 1) (mx_enc qb)) (3 * mx_n T + 2) (mx_enc qc))))] := hD
                  refine lv_iload hx hb dX4_term_291 (lv_at hl 6 rfl) ?_
                  rw [ef_1, nI_1] at hP hD
                  have hP9 := hP.sub (ws' := [(mA 0, .inr (4, [.int 0, .ref (mA 1), .ref (mA 2), .ref (mA 3), .int (nI (mx_n (mx_add T s0 qa qb qc (bs s0)))), .int (nI (mx_m F)), .ref (mA 4), .ref (mA 5), .ref (mA 6), .ref (mA 7), .ref (mA 8), .ref (mA 9), .int jo, .ref (mA 10), .ref (mA 11)])), (mA 2, .inl (cZ, 16, .inl (upd isu s0 1))), (mA 3, .inl (cI, 16, .inl (upd pls s0 (nI (q_ar qa qb qc))))), (mA 4, .inl (cI, 60, .inl (upd msg (mx_n T) (nI s0)))), (mA 5, .inl (cI, 180, .inl (upd (upd (upd at_ (3 * mx_n T) (mx_enc qa)) (3 * mx_n T + 1) (mx_enc qb)) (3 * mx_n T + 2) (mx_enc qc))))]) [0, 1, 2, 3, 4] rfl
                  have hD9 := hD.sub (ws' := [(mA 0, .inr (4, [.int 0, .ref (mA 1), .ref (mA 2), .ref (mA 3), .int (nI (mx_n (mx_add T s0 qa qb qc (bs s0)))), .int (nI (mx_m F)), .ref (mA 4), .ref (mA 5), .ref (mA 6), .ref (mA 7), .ref (mA 8), .ref (mA 9), .int jo, .ref (mA 10), .ref (mA 11)])), (mA 2, .inl (cZ, 16, .inl (upd isu s0 1))), (mA 3, .inl (cI, 16, .inl (upd pls s0 (nI (q_ar qa qb qc))))), (mA 4, .inl (cI, 60, .inl (upd msg (mx_n T) (nI s0)))), (mA 5, .inl (cI, 180, .inl (upd (upd (upd at_ (3 * mx_n T) (mx_enc qa)) (3 * mx_n T + 1) (mx_enc qb)) (3 * mx_n T + 2) (mx_enc qc))))]) [0, 1, 2, 3, 4] (by decide) rfl
                  exact W.iret (v := nI (mx_n T)) hx hb hr (fun t9 ht9 hW9 => ⟨⟨nI (mx_n T), (mx_add T s0 qa qb qc (bs s0), 0, upd isu s0 1, upd pls s0 (nI (q_ar qa qb qc)), upd msg (mx_n T) (nI s0), upd (upd (upd at_ (3 * mx_n T) (mx_enc qa)) (3 * mx_n T + 1) (mx_enc qb)) (3 * mx_n T + 2) (mx_enc qc)), rfl, ⟨Or.inr ⟨s0, qa, qb, qc, hs0, rfl, htp, Or.inr ⟨hmis, Or.inr ⟨hI9, Or.inr ⟨rfl, hlt, rfl, rfl⟩⟩⟩⟩, md_add hmt hB hs0 hmis, mdU_add hU⟩, by rw [ht9]; exact hP9, va_K.moved hW9.alike hK, hD9⟩, hS.F ht9⟩) hS.2.2 dX4_term_293
                · exact absurd (by decide) c12
              · have hge : ¬ mx_n T < 60 := by have := (nI_eq (a := mx_n T) (b := 60) (by omega) (by omega)).mp c11; omega
                refine lv_iconst (v := 3) hx hb dX4_term_204 (by decide) ?_
                refine lv_goto (tgt := 209) hx hb dX4_term_205 (by decide) ?_
                refine va_put (D := (dC, dI)) (ci := 4) (v := .int 3) (ty := .int) (C := RX4) (T := TX4) (N := 15) hx hb hts (fun w h => woX4_term w (inX4 w h)) tyX4 tyX4_ok nmX4 hown hK hP hD hS 0 rfl rfl 0 (by decide) (hts _ (woX4_term _ wd_493)) (fun _ h9 => h9) rfl (by decide +kernel) rfl rfl (Nat.le_of_ble_eq_true rfl) dX4_term_209 (fun H locs hP hD hS => ?_)
                have hP : va_P (dC, dI) vwCl [(mA 0, .inr (4, [.int 3, .ref (mA 1), .ref (mA 2), .ref (mA 3), .int (nI (mx_n T)), .int (nI (mx_m F)), .ref (mA 4), .ref (mA 5), .ref (mA 6), .ref (mA 7), .ref (mA 8), .ref (mA 9), .int jo, .ref (mA 10), .ref (mA 11)])), (mA 2, .inl (cZ, 16, .inl isu)), (mA 3, .inl (cI, 16, .inl pls)), (mA 4, .inl (cI, 60, .inl msg)), (mA 5, .inl (cI, 180, .inl at_))] H := hP
                have hD : va_D A [(mA 0, .inr (4, [.int 3, .ref (mA 1), .ref (mA 2), .ref (mA 3), .int (nI (mx_n T)), .int (nI (mx_m F)), .ref (mA 4), .ref (mA 5), .ref (mA 6), .ref (mA 7), .ref (mA 8), .ref (mA 9), .int jo, .ref (mA 10), .ref (mA 11)])), (mA 2, .inl (cZ, 16, .inl isu)), (mA 3, .inl (cI, 16, .inl pls)), (mA 4, .inl (cI, 60, .inl msg)), (mA 5, .inl (cI, 180, .inl at_))] := hD
                refine lv_aload_n hx hb dX4_term_212 rfl (lv_at hl 0 rfl) ?_
                refine va_get (D := (dC, dI)) (ci := 4) (v := .int 3) (C := RX4) (T := TX4) (N := 15) hx hb hts (fun w h => woX4_term w (inX4 w h)) hown hK hP 0 rfl rfl 0 (by decide) (hts _ (woX4_term _ wd_493)) (fun _ h9 => h9) rfl dX4_term_213 ?_
                refine lv_if_le (tgt := 221) hx hb dX4_term_216 (by decide) (fun c12 => ?_) (fun c12 => ?_)
                · exact absurd c12 (by decide)
                · refine lv_iconst (v := 0) hx hb dX4_term_219 (by decide) ?_
                  have hP9 := hP.sub (ws' := [(mA 0, .inr (4, [.int 3, .ref (mA 1), .ref (mA 2), .ref (mA 3), .int (nI (mx_n T)), .int (nI (mx_m F)), .ref (mA 4), .ref (mA 5), .ref (mA 6), .ref (mA 7), .ref (mA 8), .ref (mA 9), .int jo, .ref (mA 10), .ref (mA 11)])), (mA 2, .inl (cZ, 16, .inl isu)), (mA 3, .inl (cI, 16, .inl pls)), (mA 4, .inl (cI, 60, .inl msg)), (mA 5, .inl (cI, 180, .inl at_))]) [0, 1, 2, 3, 4] rfl
                  have hD9 := hD.sub (ws' := [(mA 0, .inr (4, [.int 3, .ref (mA 1), .ref (mA 2), .ref (mA 3), .int (nI (mx_n T)), .int (nI (mx_m F)), .ref (mA 4), .ref (mA 5), .ref (mA 6), .ref (mA 7), .ref (mA 8), .ref (mA 9), .int jo, .ref (mA 10), .ref (mA 11)])), (mA 2, .inl (cZ, 16, .inl isu)), (mA 3, .inl (cI, 16, .inl pls)), (mA 4, .inl (cI, 60, .inl msg)), (mA 5, .inl (cI, 180, .inl at_))]) [0, 1, 2, 3, 4] (by decide) rfl
                  exact W.iret (v := 0) hx hb hr (fun t9 ht9 hW9 => ⟨⟨0, (T, 3, isu, pls, msg, at_), rfl, ⟨Or.inr ⟨s0, qa, qb, qc, hs0, rfl, htp, Or.inr ⟨hmis, Or.inr ⟨hI9, Or.inl ⟨rfl, hge, rfl⟩⟩⟩⟩, hmt, hU⟩, by rw [ht9]; exact hP9, va_K.moved hW9.alike hK, hD9⟩, hS.F ht9⟩) hS.2.2 dX4_term_220
            · have htn : t < mx_n T ∧ te_is T s0 qa qb qc t := ht9.resolve_left (fun q => c10 (nI_le (by omega) (by omega)))
              refine lv_iload hx hb dX4_term_191 (lv_at hl 6 rfl) ?_
              have hP9 := hP.sub (ws' := [(mA 0, .inr (4, [.int 0, .ref (mA 1), .ref (mA 2), .ref (mA 3), .int (nI (mx_n T)), .int (nI (mx_m F)), .ref (mA 4), .ref (mA 5), .ref (mA 6), .ref (mA 7), .ref (mA 8), .ref (mA 9), .int jo, .ref (mA 10), .ref (mA 11)])), (mA 2, .inl (cZ, 16, .inl isu)), (mA 3, .inl (cI, 16, .inl pls)), (mA 4, .inl (cI, 60, .inl msg)), (mA 5, .inl (cI, 180, .inl at_))]) [0, 1, 2, 3, 4] rfl
              have hD9 := hD.sub (ws' := [(mA 0, .inr (4, [.int 0, .ref (mA 1), .ref (mA 2), .ref (mA 3), .int (nI (mx_n T)), .int (nI (mx_m F)), .ref (mA 4), .ref (mA 5), .ref (mA 6), .ref (mA 7), .ref (mA 8), .ref (mA 9), .int jo, .ref (mA 10), .ref (mA 11)])), (mA 2, .inl (cZ, 16, .inl isu)), (mA 3, .inl (cI, 16, .inl pls)), (mA 4, .inl (cI, 60, .inl msg)), (mA 5, .inl (cI, 180, .inl at_))]) [0, 1, 2, 3, 4] (by decide) rfl
              exact W.iret (v := nI t) hx hb hr (fun t9 ht9 hW9 => ⟨⟨nI t, (T, 0, isu, pls, msg, at_), rfl, ⟨Or.inr ⟨s0, qa, qb, qc, hs0, rfl, htp, Or.inr ⟨hmis, Or.inl ⟨rfl, rfl, t, htn.1, htn.2, rfl⟩⟩⟩, hmt, hU⟩, by rw [ht9]; exact hP9, va_K.moved hW9.alike hK, hD9⟩, hS.F ht9⟩) hS.2.2 dX4_term_193
          · exact absurd (by decide) c9
        · obtain ⟨t0, ht0, es0⟩ := zb_t hU0 c4
          have epl : pls s0 = nI (mx_ar (mx_pl T) t0) := by rw [← es0]; exact (hmt.1 t0 ht0).2.2.1
          have har2 := mx_ar_le (mx_pl T) t0
          refine lv_aload_n hx hb dX4_term_40 rfl (lv_at hl 1 rfl) ?_
          refine va_get (D := (dC, dI)) (ci := 4) (v := .ref (mA 3)) (C := RX4) (T := TX4) (N := 15) hx hb hts (fun w h => woX4_term w (inX4 w h)) hown hK hP 0 rfl rfl 3 (by decide) (hts _ (woX4_term _ wd_496)) (fun _ h9 => h9) rfl dX4_term_41 ?_
          refine lv_iload_n hx hb dX4_term_44 rfl (lv_at hl 2 rfl) ?_
          refine va_iald hx hb hK hP 2 0 rfl rfl (vp_in_nI (by omega) (by omega)) dX4_term_45 ?_
          rw [show (nI s0).toNatClampNeg = s0 from nI_clamp (by omega)]
          rw [epl]
          refine lv_iload hx hb dX4_term_46 (lv_at hl 0 rfl) ?_
          refine lv_icmp_eq (tgt := 55) hx hb dX4_term_48 (by decide) (fun c5 => ?_) (fun c5 => ?_)
          · have hmis : ¬ te_mis T s0 qa qb qc := fun ⟨t, q1, q2, q3⟩ => q3 (by rw [mx_ar_eq hw q1 ht0 (q2.trans es0.symm)]; exact (nI_eq (by omega) (by omega)).mp c5)
            refine lv_iconst (v := 0) hx hb dX4_term_55 (by decide) ?_
            refine va_put (D := (dC, dI)) (ci := 4) (v := .int 0) (ty := .int) (C := RX4) (T := TX4) (N := 15) hx hb hts (fun w h => woX4_term w (inX4 w h)) tyX4 tyX4_ok nmX4 hown hK hP hD hS 0 rfl rfl 0 (by decide) (hts _ (woX4_term _ wd_493)) (fun _ h9 => h9) rfl (by decide +kernel) rfl rfl (Nat.le_of_ble_eq_true rfl) dX4_term_56 (fun H locs hP hD hS => ?_)
            have hP : va_P (dC, dI) vwCl [(mA 0, .inr (4, [.int 0, .ref (mA 1), .ref (mA 2), .ref (mA 3), .int (nI (mx_n T)), .int (nI (mx_m F)), .ref (mA 4), .ref (mA 5), .ref (mA 6), .ref (mA 7), .ref (mA 8), .ref (mA 9), .int jo, .ref (mA 10), .ref (mA 11)])), (mA 2, .inl (cZ, 16, .inl isu)), (mA 3, .inl (cI, 16, .inl pls)), (mA 4, .inl (cI, 60, .inl msg)), (mA 5, .inl (cI, 180, .inl at_))] H := hP
            have hD : va_D A [(mA 0, .inr (4, [.int 0, .ref (mA 1), .ref (mA 2), .ref (mA 3), .int (nI (mx_n T)), .int (nI (mx_m F)), .ref (mA 4), .ref (mA 5), .ref (mA 6), .ref (mA 7), .ref (mA 8), .ref (mA 9), .int jo, .ref (mA 10), .ref (mA 11)])), (mA 2, .inl (cZ, 16, .inl isu)), (mA 3, .inl (cI, 16, .inl pls)), (mA 4, .inl (cI, 60, .inl msg)), (mA 5, .inl (cI, 180, .inl at_))] := hD
            refine lv_aload_n hx hb dX4_term_59 rfl (lv_at hl 1 rfl) ?_
            refine va_get (D := (dC, dI)) (ci := 4) (v := .int 0) (C := RX4) (T := TX4) (N := 15) hx hb hts (fun w h => woX4_term w (inX4 w h)) hown hK hP 0 rfl rfl 0 (by decide) (hts _ (woX4_term _ wd_493)) (fun _ h9 => h9) rfl dX4_term_60 ?_
            refine lv_if_le (tgt := 68) hx hb dX4_term_63 (by decide) (fun c9 => ?_) (fun c9 => ?_)
            · refine te_x hx hb hown hts hK htp hP hml (fun  ls  hl => ?_) 0  _ rfl  (lv_sub hl [1, 2, 0, 3, 4, 5] rfl)
              refine lv_iconst (v := 0) hx hb dX4_term_107 (by decide) ?_
              refine lv_istore (lv' := [(9, .int 0), (0, .ref (mA 0)), (1, .int (nI s0)), (5, .int (nI (q_ar qa qb qc))), (6, .int (mx_enc qa)), (7, .int (mx_enc qb)), (8, .int (mx_enc qc))]) hx hb dX4_term_108 hl (by decide) rfl (fun ls hl => ?_)
              refine te_l hx hb hown hts hK hw hpf hn hmt hs0 ha hbq hc hP hml (fun t ls hI9 ht9 hl => ?_) (mx_n T) 0 _ (by omega) (Nat.zero_le _) (fun u hu => absurd hu (Nat.not_lt_zero u)) (lv_sub hl [1, 2, 3, 4, 5, 6, 0] rfl)
              refine lv_iload hx hb dX4_term_182 (lv_at hl 6 rfl) ?_
              refine lv_aload_n hx hb dX4_term_184 rfl (lv_at hl 0 rfl) ?_
              refine va_get (D := (dC, dI)) (ci := 4) (v := .int (nI (mx_n T))) (C := RX4) (T := TX4) (N := 15) hx hb hts (fun w h => woX4_term w (inX4 w h)) hown hK hP 0 rfl rfl 4 (by decide) (hts _ (woX4_term _ wd_497)) (fun _ h9 => h9) rfl dX4_term_185 ?_
              refine lv_icmp_ge (tgt := 194) hx hb dX4_term_188 (by decide) (fun c10 => ?_) (fun c10 => ?_)
              · have etn : t = mx_n T := ht9.resolve_right (fun q => absurd c10 (nI_ge q.1 (by omega)))
                subst etn
                refine lv_aload_n hx hb dX4_term_194 rfl (lv_at hl 0 rfl) ?_
                refine lv_aload_n hx hb dX4_term_195 rfl (lv_at hl 0 rfl) ?_
                refine va_get (D := (dC, dI)) (ci := 4) (v := .int (nI (mx_n T))) (C := RX4) (T := TX4) (N := 15) hx hb hts (fun w h => woX4_term w (inX4 w h)) hown hK hP 0 rfl rfl 4 (by decide) (hts _ (woX4_term _ wd_497)) (fun _ h9 => h9) rfl dX4_term_196 ?_
                refine lv_bipush (v := 60) hx hb dX4_term_199 (by decide) ?_
                refine lv_icmp_ne (tgt := 208) hx hb dX4_term_201 (by decide) (fun c11 => ?_) (fun c11 => ?_)
                · have hlt : mx_n T < 60 := by have : ¬ mx_n T = 60 := fun q => c11 (by rw [q]; rfl); omega
                  refine lv_iconst (v := 0) hx hb dX4_term_208 (by decide) ?_
                  refine va_put (D := (dC, dI)) (ci := 4) (v := .int 0) (ty := .int) (C := RX4) (T := TX4) (N := 15) hx hb hts (fun w h => woX4_term w (inX4 w h)) tyX4 tyX4_ok nmX4 hown hK hP hD hS 0 rfl rfl 0 (by decide) (hts _ (woX4_term _ wd_493)) (fun _ h9 => h9) rfl (by decide +kernel) rfl rfl (Nat.le_of_ble_eq_true rfl) dX4_term_209 (fun H locs hP hD hS => ?_)
                  have hP : va_P (dC, dI) vwCl [(mA 0, .inr (4, [.int 0, .ref (mA 1), .ref (mA 2), .ref (mA 3), .int (nI (mx_n T)), .int (nI (mx_m F)), .ref (mA 4), .ref (mA 5), .ref (mA 6), .ref (mA 7), .ref (mA 8), .ref (mA 9), .int jo, .ref (mA 10), .ref (mA 11)])), (mA 2, .inl (cZ, 16, .inl isu)), (mA 3, .inl (cI, 16, .inl pls)), (mA 4, .inl (cI, 60, .inl msg)), (mA 5, .inl (cI, 180, .inl at_))] H := hP
                  have hD : va_D A [(mA 0, .inr (4, [.int 0, .ref (mA 1), .ref (mA 2), .ref (mA 3), .int (nI (mx_n T)), .int (nI (mx_m F)), .ref (mA 4), .ref (mA 5), .ref (mA 6), .ref (mA 7), .ref (mA 8), .ref (mA 9), .int jo, .ref (mA 10), .ref (mA 11)])), (mA 2, .inl (cZ, 16, .inl isu)), (mA 3, .inl (cI, 16, .inl pls)), (mA 4, .inl (cI, 60, .inl msg)), (mA 5, .inl (cI, 180, .inl at_))] := hD
                  refine lv_aload_n hx hb dX4_term_212 rfl (lv_at hl 0 rfl) ?_
                  refine va_get (D := (dC, dI)) (ci := 4) (v := .int 0) (C := RX4) (T := TX4) (N := 15) hx hb hts (fun w h => woX4_term w (inX4 w h)) hown hK hP 0 rfl rfl 0 (by decide) (hts _ (woX4_term _ wd_493)) (fun _ h9 => h9) rfl dX4_term_213 ?_
                  refine lv_if_le (tgt := 221) hx hb dX4_term_216 (by decide) (fun c12 => ?_) (fun c12 => ?_)
                  · refine lv_aload_n hx hb dX4_term_221 rfl (lv_at hl 0 rfl) ?_
                    refine va_get (D := (dC, dI)) (ci := 4) (v := .ref (mA 2)) (C := RX4) (T := TX4) (N := 15) hx hb hts (fun w h => woX4_term w (inX4 w h)) hown hK hP 0 rfl rfl 2 (by decide) (hts _ (woX4_term _ wd_495)) (fun _ h9 => h9) rfl dX4_term_222 ?_
                    refine lv_iload_n hx hb dX4_term_225 rfl (lv_at hl 1 rfl) ?_
                    refine lv_iconst (v := 1) hx hb dX4_term_226 (by decide) ?_
                    refine va_zast hx hb hK hP hD hS 1 2 rfl rfl (vp_in_nI (by omega) (by omega)) dX4_term_227 (fun H locs hP hD hS => ?_)
                    rw [show (nI s0).toNatClampNeg = s0 from nI_clamp (by omega)] at hP hD
                    rw [show vp_nar .boolean 1 = 1 from by decide] at hP hD
                    have hP : va_P (dC, dI) vwCl [(mA 0, .inr (4, [.int 0, .ref (mA 1), .ref (mA 2), .ref (mA 3), .int (nI (mx_n T)), .int (nI (mx_m F)), .ref (mA 4), .ref (mA 5), .ref (mA 6), .ref (mA 7), .ref (mA 8), .ref (mA 9), .int jo, .ref (mA 10), .ref (mA 11)])), (mA 2, .inl (cZ, 16, .inl (upd isu s0 1))), (mA 3, .inl (cI, 16, .inl pls)), (mA 4, .inl (cI, 60, .inl msg)), (mA 5, .inl (cI, 180, .inl at_))] H := hP
                    have hD : va_D A [(mA 0, .inr (4, [.int 0, .ref (mA 1), .ref (mA 2), .ref (mA 3), .int (nI (mx_n T)), .int (nI (mx_m F)), .ref (mA 4), .ref (mA 5), .ref (mA 6), .ref (mA 7), .ref (mA 8), .ref (mA 9), .int jo, .ref (mA 10), .ref (mA 11)])), (mA 2, .inl (cZ, 16, .inl (upd isu s0 1))), (mA 3, .inl (cI, 16, .inl pls)), (mA 4, .inl (cI, 60, .inl msg)), (mA 5, .inl (cI, 180, .inl at_))] := hD
                    refine lv_aload_n hx hb dX4_term_228 rfl (lv_at hl 0 rfl) ?_
                    refine va_get (D := (dC, dI)) (ci := 4) (v := .ref (mA 3)) (C := RX4) (T := TX4) (N := 15) hx hb hts (fun w h => woX4_term w (inX4 w h)) hown hK hP 0 rfl rfl 3 (by decide) (hts _ (woX4_term _ wd_496)) (fun _ h9 => h9) rfl dX4_term_229 ?_
                    refine lv_iload_n hx hb dX4_term_232 rfl (lv_at hl 1 rfl) ?_
                    refine lv_iload hx hb dX4_term_233 (lv_at hl 2 rfl) ?_
                    refine va_iast hx hb hK hP hD hS 2 0 rfl rfl (vp_in_nI (by omega) (by omega)) dX4_term_235 (fun H locs hP hD hS => ?_)
                    rw [show (nI s0).toNatClampNeg = s0 from nI_clamp (by omega)] at hP hD
                    have hP : va_P (dC, dI) vwCl [(mA 0, .inr (4, [.int 0, .ref (mA 1), .ref (mA 2), .ref (mA 3), .int (nI (mx_n T)), .int (nI (mx_m F)), .ref (mA 4), .ref (mA 5), .ref (mA 6), .ref (mA 7), .ref (mA 8), .ref (mA 9), .int jo, .ref (mA 10), .ref (mA 11)])), (mA 2, .inl (cZ, 16, .inl (upd isu s0 1))), (mA 3, .inl (cI, 16, .inl (upd pls s0 (nI (q_ar qa qb qc))))), (mA 4, .inl (cI, 60, .inl msg)), (mA 5, .inl (cI, 180, .inl at_))] H := hP
                    have hD : va_D A [(mA 0, .inr (4, [.int 0, .ref (mA 1), .ref (mA 2), .ref (mA 3), .int (nI (mx_n T)), .int (nI (mx_m F)), .ref (mA 4), .ref (mA 5), .ref (mA 6), .ref (mA 7), .ref (mA 8), .ref (mA 9), .int jo, .ref (mA 10), .ref (mA 11)])), (mA 2, .inl (cZ, 16, .inl (upd isu s0 1))), (mA 3, .inl (cI, 16, .inl (upd pls s0 (nI (q_ar qa qb qc))))), (mA 4, .inl (cI, 60, .inl msg)), (mA 5, .inl (cI, 180, .inl at_))] := hD
                    refine lv_aload_n hx hb dX4_term_236 rfl (lv_at hl 0 rfl) ?_
                    refine va_get (D := (dC, dI)) (ci := 4) (v := .ref (mA 4)) (C := RX4) (T := TX4) (N := 15) hx hb hts (fun w h => woX4_term w (inX4 w h)) hown hK hP 0 rfl rfl 6 (by decide) (hts _ (woX4_term _ wd_499)) (fun _ h9 => h9) rfl dX4_term_237 ?_
                    refine lv_iload hx hb dX4_term_240 (lv_at hl 6 rfl) ?_
                    refine lv_iload_n hx hb dX4_term_242 rfl (lv_at hl 1 rfl) ?_
                    refine va_iast hx hb hK hP hD hS 3 0 rfl rfl (vp_in_nI (by omega) (by omega)) dX4_term_243 (fun H locs hP hD hS => ?_)
                    rw [show (nI (mx_n T)).toNatClampNeg = (mx_n T) from nI_clamp (by omega)] at hP hD
                    have hP : va_P (dC, dI) vwCl [(mA 0, .inr (4, [.int 0, .ref (mA 1), .ref (mA 2), .ref (mA 3), .int (nI (mx_n T)), .int (nI (mx_m F)), .ref (mA 4), .ref (mA 5), .ref (mA 6), .ref (mA 7), .ref (mA 8), .ref (mA 9), .int jo, .ref (mA 10), .ref (mA 11)])), (mA 2, .inl (cZ, 16, .inl (upd isu s0 1))), (mA 3, .inl (cI, 16, .inl (upd pls s0 (nI (q_ar qa qb qc))))), (mA 4, .inl (cI, 60, .inl (upd msg (mx_n T) (nI s0)))), (mA 5, .inl (cI, 180, .inl at_))] H := hP
                    have hD : va_D A [(mA 0, .inr (4, [.int 0, .ref (mA 1), .ref (mA 2), .ref (mA 3), .int (nI (mx_n T)), .int (nI (mx_m F)), .ref (mA 4), .ref (mA 5), .ref (mA 6), .ref (mA 7), .ref (mA 8), .ref (mA 9), .int jo, .ref (mA 10), .ref (mA 11)])), (mA 2, .inl (cZ, 16, .inl (upd isu s0 1))), (mA 3, .inl (cI, 16, .inl (upd pls s0 (nI (q_ar qa qb qc))))), (mA 4, .inl (cI, 60, .inl (upd msg (mx_n T) (nI s0)))), (mA 5, .inl (cI, 180, .inl at_))] := hD
                    refine lv_aload_n hx hb dX4_term_244 rfl (lv_at hl 0 rfl) ?_
                    refine va_get (D := (dC, dI)) (ci := 4) (v := .ref (mA 5)) (C := RX4) (T := TX4) (N := 15) hx hb hts (fun w h => woX4_term w (inX4 w h)) hown hK hP 0 rfl rfl 7 (by decide) (hts _ (woX4_term _ wd_500)) (fun _ h9 => h9) rfl dX4_term_245 ?_
                    refine lv_iconst (v := 3) hx hb dX4_term_248 (by decide) ?_
                    refine lv_iload hx hb dX4_term_249 (lv_at hl 6 rfl) ?_
                    refine lv_imul hx hb dX4_term_251 ?_
                    rw [ix3z]
                    refine lv_iload hx hb dX4_term_252 (lv_at hl 3 rfl) ?_
                    refine va_iast hx hb hK hP hD hS 4 0 rfl rfl (vp_in_nI (by omega) (by omega)) dX4_term_254 (fun H locs hP hD hS => ?_)
                    rw [show (nI (3 * mx_n T)).toNatClampNeg = (3 * mx_n T) from nI_clamp (by omega)] at hP hD
                    have hP : va_P (dC, dI) vwCl [(mA 0, .inr (4, [.int 0, .ref (mA 1), .ref (mA 2), .ref (mA 3), .int (nI (mx_n T)), .int (nI (mx_m F)), .ref (mA 4), .ref (mA 5), .ref (mA 6), .ref (mA 7), .ref (mA 8), .ref (mA 9), .int jo, .ref (mA 10), .ref (mA 11)])), (mA 2, .inl (cZ, 16, .inl (upd isu s0 1))), (mA 3, .inl (cI, 16, .inl (upd pls s0 (nI (q_ar qa qb qc))))), (mA 4, .inl (cI, 60, .inl (upd msg (mx_n T) (nI s0)))), (mA 5, .inl (cI, 180, .inl (upd at_ (3 * mx_n T) (mx_enc qa))))] H := hP
                    have hD : va_D A [(mA 0, .inr (4, [.int 0, .ref (mA 1), .ref (mA 2), .ref (mA 3), .int (nI (mx_n T)), .int (nI (mx_m F)), .ref (mA 4), .ref (mA 5), .ref (mA 6), .ref (mA 7), .ref (mA 8), .ref (mA 9), .int jo, .ref (mA 10), .ref (mA 11)])), (mA 2, .inl (cZ, 16, .inl (upd isu s0 1))), (mA 3, .inl (cI, 16, .inl (upd pls s0 (nI (q_ar qa qb qc))))), (mA 4, .inl (cI, 60, .inl (upd msg (mx_n T) (nI s0)))), (mA 5, .inl (cI, 180, .inl (upd at_ (3 * mx_n T) (mx_enc qa))))] := hD
                    refine lv_aload_n hx hb dX4_term_255 rfl (lv_at hl 0 rfl) ?_
                    refine va_get (D := (dC, dI)) (ci := 4) (v := .ref (mA 5)) (C := RX4) (T := TX4) (N := 15) hx hb hts (fun w h => woX4_term w (inX4 w h)) hown hK hP 0 rfl rfl 7 (by decide) (hts _ (woX4_term _ wd_500)) (fun _ h9 => h9) rfl dX4_term_256 ?_
                    refine lv_iconst (v := 3) hx hb dX4_term_259 (by decide) ?_
                    refine lv_iload hx hb dX4_term_260 (lv_at hl 6 rfl) ?_
                    refine lv_imul hx hb dX4_term_262 ?_
                    rw [ix3z]
                    refine lv_iconst (v := 1) hx hb dX4_term_263 (by decide) ?_
                    refine lv_iadd hx hb dX4_term_264 ?_
                    rw [ix3a]
                    refine lv_iload hx hb dX4_term_265 (lv_at hl 4 rfl) ?_
                    refine va_iast hx hb hK hP hD hS 4 0 rfl rfl (vp_in_nI (by omega) (by omega)) dX4_term_267 (fun H locs hP hD hS => ?_)
                    rw [show (nI (3 * mx_n T + 1)).toNatClampNeg = (3 * mx_n T + 1) from nI_clamp (by omega)] at hP hD
                    have hP : va_P (dC, dI) vwCl [(mA 0, .inr (4, [.int 0, .ref (mA 1), .ref (mA 2), .ref (mA 3), .int (nI (mx_n T)), .int (nI (mx_m F)), .ref (mA 4), .ref (mA 5), .ref (mA 6), .ref (mA 7), .ref (mA 8), .ref (mA 9), .int jo, .ref (mA 10), .ref (mA 11)])), (mA 2, .inl (cZ, 16, .inl (upd isu s0 1))), (mA 3, .inl (cI, 16, .inl (upd pls s0 (nI (q_ar qa qb qc))))), (mA 4, .inl (cI, 60, .inl (upd msg (mx_n T) (nI s0)))), (mA 5, .inl (cI, 180, .inl (upd (upd at_ (3 * mx_n T) (mx_enc qa)) (3 * mx_n T + 1) (mx_enc qb))))] H := hP
                    have hD : va_D A [(mA 0, .inr (4, [.int 0, .ref (mA 1), .ref (mA 2), .ref (mA 3), .int (nI (mx_n T)), .int (nI (mx_m F)), .ref (mA 4), .ref (mA 5), .ref (mA 6), .ref (mA 7), .ref (mA 8), .ref (mA 9), .int jo, .ref (mA 10), .ref (mA 11)])), (mA 2, .inl (cZ, 16, .inl (upd isu s0 1))), (mA 3, .inl (cI, 16, .inl (upd pls s0 (nI (q_ar qa qb qc))))), (mA 4, .inl (cI, 60, .inl (upd msg (mx_n T) (nI s0)))), (mA 5, .inl (cI, 180, .inl (upd (upd at_ (3 * mx_n T) (mx_enc qa)) (3 * mx_n T + 1) (mx_enc qb))))] := hD
                    refine lv_aload_n hx hb dX4_term_268 rfl (lv_at hl 0 rfl) ?_
                    refine va_get (D := (dC, dI)) (ci := 4) (v := .ref (mA 5)) (C := RX4) (T := TX4) (N := 15) hx hb hts (fun w h => woX4_term w (inX4 w h)) hown hK hP 0 rfl rfl 7 (by decide) (hts _ (woX4_term _ wd_500)) (fun _ h9 => h9) rfl dX4_term_269 ?_
                    refine lv_iconst (v := 3) hx hb dX4_term_272 (by decide) ?_
                    refine lv_iload hx hb dX4_term_273 (lv_at hl 6 rfl) ?_
                    refine lv_imul hx hb dX4_term_275 ?_
                    rw [ix3z]
                    refine lv_iconst (v := 2) hx hb dX4_term_276 (by decide) ?_
                    refine lv_iadd hx hb dX4_term_277 ?_
                    rw [ix3b]
                    refine lv_iload hx hb dX4_term_278 (lv_at hl 5 rfl) ?_
                    refine va_iast hx hb hK hP hD hS 4 0 rfl rfl (vp_in_nI (by omega) (by omega)) dX4_term_280 (fun H locs hP hD hS => ?_)
                    rw [show (nI (3 * mx_n T + 2)).toNatClampNeg = (3 * mx_n T + 2) from nI_clamp (by omega)] at hP hD
                    have hP : va_P (dC, dI) vwCl [(mA 0, .inr (4, [.int 0, .ref (mA 1), .ref (mA 2), .ref (mA 3), .int (nI (mx_n T)), .int (nI (mx_m F)), .ref (mA 4), .ref (mA 5), .ref (mA 6), .ref (mA 7), .ref (mA 8), .ref (mA 9), .int jo, .ref (mA 10), .ref (mA 11)])), (mA 2, .inl (cZ, 16, .inl (upd isu s0 1))), (mA 3, .inl (cI, 16, .inl (upd pls s0 (nI (q_ar qa qb qc))))), (mA 4, .inl (cI, 60, .inl (upd msg (mx_n T) (nI s0)))), (mA 5, .inl (cI, 180, .inl (upd (upd (upd at_ (3 * mx_n T) (mx_enc qa)) (3 * mx_n T + 1) (mx_enc qb)) (3 * mx_n T + 2) (mx_enc qc))))] H := hP
                    have hD : va_D A [(mA 0, .inr (4, [.int 0, .ref (mA 1), .ref (mA 2), .ref (mA 3), .int (nI (mx_n T)), .int (nI (mx_m F)), .ref (mA 4), .ref (mA 5), .ref (mA 6), .ref (mA 7), .ref (mA 8), .ref (mA 9), .int jo, .ref (mA 10), .ref (mA 11)])), (mA 2, .inl (cZ, 16, .inl (upd isu s0 1))), (mA 3, .inl (cI, 16, .inl (upd pls s0 (nI (q_ar qa qb qc))))), (mA 4, .inl (cI, 60, .inl (upd msg (mx_n T) (nI s0)))), (mA 5, .inl (cI, 180, .inl (upd (upd (upd at_ (3 * mx_n T) (mx_enc qa)) (3 * mx_n T + 1) (mx_enc qb)) (3 * mx_n T + 2) (mx_enc qc))))] := hD
                    refine lv_aload_n hx hb dX4_term_281 rfl (lv_at hl 0 rfl) ?_
                    refine lv_dup hx hb dX4_term_282 rfl ?_
                    refine va_get (D := (dC, dI)) (ci := 4) (v := .int (nI (mx_n T))) (C := RX4) (T := TX4) (N := 15) hx hb hts (fun w h => woX4_term w (inX4 w h)) hown hK hP 0 rfl rfl 4 (by decide) (hts _ (woX4_term _ wd_497)) (fun _ h9 => h9) rfl dX4_term_283 ?_
                    refine lv_iconst (v := 1) hx hb dX4_term_286 (by decide) ?_
                    refine lv_iadd hx hb dX4_term_287 ?_
                    refine lv_topi (fun f_2 ef_2 => ?_)
                    refine va_put (D := (dC, dI)) (ci := 4) (v := .int f_2) (ty := .int) (C := RX4) (T := TX4) (N := 15) hx hb hts (fun w h => woX4_term w (inX4 w h)) tyX4 tyX4_ok nmX4 hown hK hP hD hS 0 rfl rfl 4 (by decide) (hts _ (woX4_term _ wd_497)) (fun _ h9 => h9) rfl (by decide +kernel) rfl rfl (Nat.le_of_ble_eq_true rfl) dX4_term_288 (fun H locs hP hD hS => ?_)
                    have hP : va_P (dC, dI) vwCl [(mA 0, .inr (4, [.int 0, .ref (mA 1), .ref (mA 2), .ref (mA 3), .int f_2, .int (nI (mx_m F)), .ref (mA 4), .ref (mA 5), .ref (mA 6), .ref (mA 7), .ref (mA 8), .ref (mA 9), .int jo, .ref (mA 10), .ref (mA 11)])), (mA 2, .inl (cZ, 16, .inl (upd isu s0 1))), (mA 3, .inl (cI, 16, .inl (upd pls s0 (nI (q_ar qa qb qc))))), (mA 4, .inl (cI, 60, .inl (upd msg (mx_n T) (nI s0)))), (mA 5, .inl (cI, 180, .inl (upd (upd (upd at_ (3 * mx_n T) (mx_enc qa)) (3 * mx_n T + 1) (mx_enc qb)) (3 * mx_n T + 2) (mx_enc qc))))] H := hP
                    have hD : va_D A [(mA 0, .inr (4, [.int 0, .ref (mA 1), .ref (mA 2), .ref (mA 3), .int f_2, .int (nI (mx_m F)), .ref (mA 4), .ref (mA 5), .ref (mA 6), .ref (mA 7), .ref (mA 8), .ref (mA 9), .int jo, .ref (mA 10), .ref (mA 11)])), (mA 2, .inl (cZ, 16, .inl (upd isu s0 1))), (mA 3, .inl (cI, 16, .inl (upd pls s0 (nI (q_ar qa qb qc))))), (mA 4, .inl (cI, 60, .inl (upd msg (mx_n T) (nI s0)))), (mA 5, .inl (cI, 180, .inl (upd (upd (upd at_ (3 * mx_n T) (mx_enc qa)) (3 * mx_n T + 1) (mx_enc qb)) (3 * mx_n T + 2) (mx_enc qc))))] := hD
                    refine lv_iload hx hb dX4_term_291 (lv_at hl 6 rfl) ?_
                    rw [ef_2, nI_1] at hP hD
                    have hP9 := hP.sub (ws' := [(mA 0, .inr (4, [.int 0, .ref (mA 1), .ref (mA 2), .ref (mA 3), .int (nI (mx_n (mx_add T s0 qa qb qc (bs s0)))), .int (nI (mx_m F)), .ref (mA 4), .ref (mA 5), .ref (mA 6), .ref (mA 7), .ref (mA 8), .ref (mA 9), .int jo, .ref (mA 10), .ref (mA 11)])), (mA 2, .inl (cZ, 16, .inl (upd isu s0 1))), (mA 3, .inl (cI, 16, .inl (upd pls s0 (nI (q_ar qa qb qc))))), (mA 4, .inl (cI, 60, .inl (upd msg (mx_n T) (nI s0)))), (mA 5, .inl (cI, 180, .inl (upd (upd (upd at_ (3 * mx_n T) (mx_enc qa)) (3 * mx_n T + 1) (mx_enc qb)) (3 * mx_n T + 2) (mx_enc qc))))]) [0, 1, 2, 3, 4] rfl
                    have hD9 := hD.sub (ws' := [(mA 0, .inr (4, [.int 0, .ref (mA 1), .ref (mA 2), .ref (mA 3), .int (nI (mx_n (mx_add T s0 qa qb qc (bs s0)))), .int (nI (mx_m F)), .ref (mA 4), .ref (mA 5), .ref (mA 6), .ref (mA 7), .ref (mA 8), .ref (mA 9), .int jo, .ref (mA 10), .ref (mA 11)])), (mA 2, .inl (cZ, 16, .inl (upd isu s0 1))), (mA 3, .inl (cI, 16, .inl (upd pls s0 (nI (q_ar qa qb qc))))), (mA 4, .inl (cI, 60, .inl (upd msg (mx_n T) (nI s0)))), (mA 5, .inl (cI, 180, .inl (upd (upd (upd at_ (3 * mx_n T) (mx_enc qa)) (3 * mx_n T + 1) (mx_enc qb)) (3 * mx_n T + 2) (mx_enc qc))))]) [0, 1, 2, 3, 4] (by decide) rfl
                    exact W.iret (v := nI (mx_n T)) hx hb hr (fun t9 ht9 hW9 => ⟨⟨nI (mx_n T), (mx_add T s0 qa qb qc (bs s0), 0, upd isu s0 1, upd pls s0 (nI (q_ar qa qb qc)), upd msg (mx_n T) (nI s0), upd (upd (upd at_ (3 * mx_n T) (mx_enc qa)) (3 * mx_n T + 1) (mx_enc qb)) (3 * mx_n T + 2) (mx_enc qc)), rfl, ⟨Or.inr ⟨s0, qa, qb, qc, hs0, rfl, htp, Or.inr ⟨hmis, Or.inr ⟨hI9, Or.inr ⟨rfl, hlt, rfl, rfl⟩⟩⟩⟩, md_add hmt hB hs0 hmis, mdU_add hU⟩, by rw [ht9]; exact hP9, va_K.moved hW9.alike hK, hD9⟩, hS.F ht9⟩) hS.2.2 dX4_term_293
                  · exact absurd (by decide) c12
                · have hge : ¬ mx_n T < 60 := by have := (nI_eq (a := mx_n T) (b := 60) (by omega) (by omega)).mp c11; omega
                  refine lv_iconst (v := 3) hx hb dX4_term_204 (by decide) ?_
                  refine lv_goto (tgt := 209) hx hb dX4_term_205 (by decide) ?_
                  refine va_put (D := (dC, dI)) (ci := 4) (v := .int 3) (ty := .int) (C := RX4) (T := TX4) (N := 15) hx hb hts (fun w h => woX4_term w (inX4 w h)) tyX4 tyX4_ok nmX4 hown hK hP hD hS 0 rfl rfl 0 (by decide) (hts _ (woX4_term _ wd_493)) (fun _ h9 => h9) rfl (by decide +kernel) rfl rfl (Nat.le_of_ble_eq_true rfl) dX4_term_209 (fun H locs hP hD hS => ?_)
                  have hP : va_P (dC, dI) vwCl [(mA 0, .inr (4, [.int 3, .ref (mA 1), .ref (mA 2), .ref (mA 3), .int (nI (mx_n T)), .int (nI (mx_m F)), .ref (mA 4), .ref (mA 5), .ref (mA 6), .ref (mA 7), .ref (mA 8), .ref (mA 9), .int jo, .ref (mA 10), .ref (mA 11)])), (mA 2, .inl (cZ, 16, .inl isu)), (mA 3, .inl (cI, 16, .inl pls)), (mA 4, .inl (cI, 60, .inl msg)), (mA 5, .inl (cI, 180, .inl at_))] H := hP
                  have hD : va_D A [(mA 0, .inr (4, [.int 3, .ref (mA 1), .ref (mA 2), .ref (mA 3), .int (nI (mx_n T)), .int (nI (mx_m F)), .ref (mA 4), .ref (mA 5), .ref (mA 6), .ref (mA 7), .ref (mA 8), .ref (mA 9), .int jo, .ref (mA 10), .ref (mA 11)])), (mA 2, .inl (cZ, 16, .inl isu)), (mA 3, .inl (cI, 16, .inl pls)), (mA 4, .inl (cI, 60, .inl msg)), (mA 5, .inl (cI, 180, .inl at_))] := hD
                  refine lv_aload_n hx hb dX4_term_212 rfl (lv_at hl 0 rfl) ?_
                  refine va_get (D := (dC, dI)) (ci := 4) (v := .int 3) (C := RX4) (T := TX4) (N := 15) hx hb hts (fun w h => woX4_term w (inX4 w h)) hown hK hP 0 rfl rfl 0 (by decide) (hts _ (woX4_term _ wd_493)) (fun _ h9 => h9) rfl dX4_term_213 ?_
                  refine lv_if_le (tgt := 221) hx hb dX4_term_216 (by decide) (fun c12 => ?_) (fun c12 => ?_)
                  · exact absurd c12 (by decide)
                  · refine lv_iconst (v := 0) hx hb dX4_term_219 (by decide) ?_
                    have hP9 := hP.sub (ws' := [(mA 0, .inr (4, [.int 3, .ref (mA 1), .ref (mA 2), .ref (mA 3), .int (nI (mx_n T)), .int (nI (mx_m F)), .ref (mA 4), .ref (mA 5), .ref (mA 6), .ref (mA 7), .ref (mA 8), .ref (mA 9), .int jo, .ref (mA 10), .ref (mA 11)])), (mA 2, .inl (cZ, 16, .inl isu)), (mA 3, .inl (cI, 16, .inl pls)), (mA 4, .inl (cI, 60, .inl msg)), (mA 5, .inl (cI, 180, .inl at_))]) [0, 1, 2, 3, 4] rfl
                    have hD9 := hD.sub (ws' := [(mA 0, .inr (4, [.int 3, .ref (mA 1), .ref (mA 2), .ref (mA 3), .int (nI (mx_n T)), .int (nI (mx_m F)), .ref (mA 4), .ref (mA 5), .ref (mA 6), .ref (mA 7), .ref (mA 8), .ref (mA 9), .int jo, .ref (mA 10), .ref (mA 11)])), (mA 2, .inl (cZ, 16, .inl isu)), (mA 3, .inl (cI, 16, .inl pls)), (mA 4, .inl (cI, 60, .inl msg)), (mA 5, .inl (cI, 180, .inl at_))]) [0, 1, 2, 3, 4] (by decide) rfl
                    exact W.iret (v := 0) hx hb hr (fun t9 ht9 hW9 => ⟨⟨0, (T, 3, isu, pls, msg, at_), rfl, ⟨Or.inr ⟨s0, qa, qb, qc, hs0, rfl, htp, Or.inr ⟨hmis, Or.inr ⟨hI9, Or.inl ⟨rfl, hge, rfl⟩⟩⟩⟩, hmt, hU⟩, by rw [ht9]; exact hP9, va_K.moved hW9.alike hK, hD9⟩, hS.F ht9⟩) hS.2.2 dX4_term_220
              · have htn : t < mx_n T ∧ te_is T s0 qa qb qc t := ht9.resolve_left (fun q => c10 (nI_le (by omega) (by omega)))
                refine lv_iload hx hb dX4_term_191 (lv_at hl 6 rfl) ?_
                have hP9 := hP.sub (ws' := [(mA 0, .inr (4, [.int 0, .ref (mA 1), .ref (mA 2), .ref (mA 3), .int (nI (mx_n T)), .int (nI (mx_m F)), .ref (mA 4), .ref (mA 5), .ref (mA 6), .ref (mA 7), .ref (mA 8), .ref (mA 9), .int jo, .ref (mA 10), .ref (mA 11)])), (mA 2, .inl (cZ, 16, .inl isu)), (mA 3, .inl (cI, 16, .inl pls)), (mA 4, .inl (cI, 60, .inl msg)), (mA 5, .inl (cI, 180, .inl at_))]) [0, 1, 2, 3, 4] rfl
                have hD9 := hD.sub (ws' := [(mA 0, .inr (4, [.int 0, .ref (mA 1), .ref (mA 2), .ref (mA 3), .int (nI (mx_n T)), .int (nI (mx_m F)), .ref (mA 4), .ref (mA 5), .ref (mA 6), .ref (mA 7), .ref (mA 8), .ref (mA 9), .int jo, .ref (mA 10), .ref (mA 11)])), (mA 2, .inl (cZ, 16, .inl isu)), (mA 3, .inl (cI, 16, .inl pls)), (mA 4, .inl (cI, 60, .inl msg)), (mA 5, .inl (cI, 180, .inl at_))]) [0, 1, 2, 3, 4] (by decide) rfl
                exact W.iret (v := nI t) hx hb hr (fun t9 ht9 hW9 => ⟨⟨nI t, (T, 0, isu, pls, msg, at_), rfl, ⟨Or.inr ⟨s0, qa, qb, qc, hs0, rfl, htp, Or.inr ⟨hmis, Or.inl ⟨rfl, rfl, t, htn.1, htn.2, rfl⟩⟩⟩, hmt, hU⟩, by rw [ht9]; exact hP9, va_K.moved hW9.alike hK, hD9⟩, hS.F ht9⟩) hS.2.2 dX4_term_193
            · exact absurd (by decide) c9
          · refine lv_iconst (v := 2) hx hb dX4_term_51 (by decide) ?_
            refine lv_goto (tgt := 56) hx hb dX4_term_52 (by decide) ?_
            refine va_put (D := (dC, dI)) (ci := 4) (v := .int 2) (ty := .int) (C := RX4) (T := TX4) (N := 15) hx hb hts (fun w h => woX4_term w (inX4 w h)) tyX4 tyX4_ok nmX4 hown hK hP hD hS 0 rfl rfl 0 (by decide) (hts _ (woX4_term _ wd_493)) (fun _ h9 => h9) rfl (by decide +kernel) rfl rfl (Nat.le_of_ble_eq_true rfl) dX4_term_56 (fun H locs hP hD hS => ?_)
            have hP : va_P (dC, dI) vwCl [(mA 0, .inr (4, [.int 2, .ref (mA 1), .ref (mA 2), .ref (mA 3), .int (nI (mx_n T)), .int (nI (mx_m F)), .ref (mA 4), .ref (mA 5), .ref (mA 6), .ref (mA 7), .ref (mA 8), .ref (mA 9), .int jo, .ref (mA 10), .ref (mA 11)])), (mA 2, .inl (cZ, 16, .inl isu)), (mA 3, .inl (cI, 16, .inl pls)), (mA 4, .inl (cI, 60, .inl msg)), (mA 5, .inl (cI, 180, .inl at_))] H := hP
            have hD : va_D A [(mA 0, .inr (4, [.int 2, .ref (mA 1), .ref (mA 2), .ref (mA 3), .int (nI (mx_n T)), .int (nI (mx_m F)), .ref (mA 4), .ref (mA 5), .ref (mA 6), .ref (mA 7), .ref (mA 8), .ref (mA 9), .int jo, .ref (mA 10), .ref (mA 11)])), (mA 2, .inl (cZ, 16, .inl isu)), (mA 3, .inl (cI, 16, .inl pls)), (mA 4, .inl (cI, 60, .inl msg)), (mA 5, .inl (cI, 180, .inl at_))] := hD
            refine lv_aload_n hx hb dX4_term_59 rfl (lv_at hl 1 rfl) ?_
            refine va_get (D := (dC, dI)) (ci := 4) (v := .int 2) (C := RX4) (T := TX4) (N := 15) hx hb hts (fun w h => woX4_term w (inX4 w h)) hown hK hP 0 rfl rfl 0 (by decide) (hts _ (woX4_term _ wd_493)) (fun _ h9 => h9) rfl dX4_term_60 ?_
            refine lv_if_le (tgt := 68) hx hb dX4_term_63 (by decide) (fun c9 => ?_) (fun c9 => ?_)
            · exact absurd c9 (by decide)
            · refine lv_iconst (v := 0) hx hb dX4_term_66 (by decide) ?_
              have hP9 := hP.sub (ws' := [(mA 0, .inr (4, [.int 2, .ref (mA 1), .ref (mA 2), .ref (mA 3), .int (nI (mx_n T)), .int (nI (mx_m F)), .ref (mA 4), .ref (mA 5), .ref (mA 6), .ref (mA 7), .ref (mA 8), .ref (mA 9), .int jo, .ref (mA 10), .ref (mA 11)])), (mA 2, .inl (cZ, 16, .inl isu)), (mA 3, .inl (cI, 16, .inl pls)), (mA 4, .inl (cI, 60, .inl msg)), (mA 5, .inl (cI, 180, .inl at_))]) [0, 1, 2, 3, 4] rfl
              have hD9 := hD.sub (ws' := [(mA 0, .inr (4, [.int 2, .ref (mA 1), .ref (mA 2), .ref (mA 3), .int (nI (mx_n T)), .int (nI (mx_m F)), .ref (mA 4), .ref (mA 5), .ref (mA 6), .ref (mA 7), .ref (mA 8), .ref (mA 9), .int jo, .ref (mA 10), .ref (mA 11)])), (mA 2, .inl (cZ, 16, .inl isu)), (mA 3, .inl (cI, 16, .inl pls)), (mA 4, .inl (cI, 60, .inl msg)), (mA 5, .inl (cI, 180, .inl at_))]) [0, 1, 2, 3, 4] (by decide) rfl
              exact W.iret (v := 0) hx hb hr (fun t9 ht9 hW9 => ⟨⟨0, (T, 2, isu, pls, msg, at_), rfl, ⟨Or.inr ⟨s0, qa, qb, qc, hs0, rfl, htp, Or.inl ⟨rfl, rfl, t0, ht0, es0, fun z => c5 (by rw [z])⟩⟩, hmt, hU⟩, by rw [ht9]; exact hP9, va_K.moved hW9.alike hK, hD9⟩, hS.F ht9⟩) hS.2.2 dX4_term_67
      · have hnone : ¬ ∃ qa qb qc, tp_ok (mx_n T) a b c0 qa qb qc := by
          rcases hnv with ⟨qa, qb, qc, -, q⟩ | q
          · have := q_ar_le qa qb qc; have z := (nI_eq (a := q_ar qa qb qc) (b := 4) (by omega) (by omega)).mp (q.symm.trans c3); omega
          · exact q.2
        refine lv_iconst (v := 1) hx hb dX4_term_27 (by decide) ?_
        refine lv_goto (tgt := 56) hx hb dX4_term_28 (by decide) ?_
        refine va_put (D := (dC, dI)) (ci := 4) (v := .int 1) (ty := .int) (C := RX4) (T := TX4) (N := 15) hx hb hts (fun w h => woX4_term w (inX4 w h)) tyX4 tyX4_ok nmX4 hown hK hP hD hS 0 rfl rfl 0 (by decide) (hts _ (woX4_term _ wd_493)) (fun _ h9 => h9) rfl (by decide +kernel) rfl rfl (Nat.le_of_ble_eq_true rfl) dX4_term_56 (fun H locs hP hD hS => ?_)
        have hP : va_P (dC, dI) vwCl [(mA 0, .inr (4, [.int 1, .ref (mA 1), .ref (mA 2), .ref (mA 3), .int (nI (mx_n T)), .int (nI (mx_m F)), .ref (mA 4), .ref (mA 5), .ref (mA 6), .ref (mA 7), .ref (mA 8), .ref (mA 9), .int jo, .ref (mA 10), .ref (mA 11)])), (mA 2, .inl (cZ, 16, .inl isu)), (mA 3, .inl (cI, 16, .inl pls)), (mA 4, .inl (cI, 60, .inl msg)), (mA 5, .inl (cI, 180, .inl at_))] H := hP
        have hD : va_D A [(mA 0, .inr (4, [.int 1, .ref (mA 1), .ref (mA 2), .ref (mA 3), .int (nI (mx_n T)), .int (nI (mx_m F)), .ref (mA 4), .ref (mA 5), .ref (mA 6), .ref (mA 7), .ref (mA 8), .ref (mA 9), .int jo, .ref (mA 10), .ref (mA 11)])), (mA 2, .inl (cZ, 16, .inl isu)), (mA 3, .inl (cI, 16, .inl pls)), (mA 4, .inl (cI, 60, .inl msg)), (mA 5, .inl (cI, 180, .inl at_))] := hD
        refine lv_aload_n hx hb dX4_term_59 rfl (lv_at hl 1 rfl) ?_
        refine va_get (D := (dC, dI)) (ci := 4) (v := .int 1) (C := RX4) (T := TX4) (N := 15) hx hb hts (fun w h => woX4_term w (inX4 w h)) hown hK hP 0 rfl rfl 0 (by decide) (hts _ (woX4_term _ wd_493)) (fun _ h9 => h9) rfl dX4_term_60 ?_
        refine lv_if_le (tgt := 68) hx hb dX4_term_63 (by decide) (fun c9 => ?_) (fun c9 => ?_)
        · exact absurd c9 (by decide)
        · refine lv_iconst (v := 0) hx hb dX4_term_66 (by decide) ?_
          have hP9 := hP.sub (ws' := [(mA 0, .inr (4, [.int 1, .ref (mA 1), .ref (mA 2), .ref (mA 3), .int (nI (mx_n T)), .int (nI (mx_m F)), .ref (mA 4), .ref (mA 5), .ref (mA 6), .ref (mA 7), .ref (mA 8), .ref (mA 9), .int jo, .ref (mA 10), .ref (mA 11)])), (mA 2, .inl (cZ, 16, .inl isu)), (mA 3, .inl (cI, 16, .inl pls)), (mA 4, .inl (cI, 60, .inl msg)), (mA 5, .inl (cI, 180, .inl at_))]) [0, 1, 2, 3, 4] rfl
          have hD9 := hD.sub (ws' := [(mA 0, .inr (4, [.int 1, .ref (mA 1), .ref (mA 2), .ref (mA 3), .int (nI (mx_n T)), .int (nI (mx_m F)), .ref (mA 4), .ref (mA 5), .ref (mA 6), .ref (mA 7), .ref (mA 8), .ref (mA 9), .int jo, .ref (mA 10), .ref (mA 11)])), (mA 2, .inl (cZ, 16, .inl isu)), (mA 3, .inl (cI, 16, .inl pls)), (mA 4, .inl (cI, 60, .inl msg)), (mA 5, .inl (cI, 180, .inl at_))]) [0, 1, 2, 3, 4] (by decide) rfl
          exact W.iret (v := 0) hx hb hr (fun t9 ht9 hW9 => ⟨⟨0, (T, 1, isu, pls, msg, at_), rfl, ⟨Or.inl ⟨rfl, rfl, fun q => hnone q.2⟩, hmt, hU⟩, by rw [ht9]; exact hP9, va_K.moved hW9.alike hK, hD9⟩, hS.F ht9⟩) hS.2.2 dX4_term_67

theorem mdB_set {bs : Nat → Bool} {isb : Nat → Int32} (h : md_B bs isb) (s0 : Nat) : md_B (fun x => if x = s0 then true else bs x) (upd isb s0 1) := fun x hx => by
  by_cases z : x = s0
  · subst z; rw [pk_us]; simp
  · rw [pk_un z, h x hx]; simp [z]

set_option maxHeartbeats 4000000 in
set_option maxRecDepth 100000 in
/-- the reference: builder -/
theorem m_builder (l : Launch) (dC : Nat → ClassId) (dI : Nat → Nat → Nat) (cI cJ cZ : ClassId) (T : mx_T) (F : mx_F) (bs : Nat → Bool) (mA : Nat → Nat) (th : Int32) (jo : Int32) (isb : Nat → Int32) (isu : Nat → Int32) (pls : Nat → Int32) (msg : Nat → Int32) (at_ : Nat → Int32) (sv : Int32) (sz : Nat) (hw : mx_wf T) (hpf : mx_pf T) (hn : mx_n T ≤ 60) (hmt : md_T T isb pls msg at_) (hU : md_U T isu) (hB : md_B bs isb) : Met l yX4_builder wsX4_builder ({ frames := 0, cells := 0, slots := 0, locals := 0 }) (va_Pc [.ref (mA 0), .int sv] (fun U => U.heap.size = sz ∧ va_P (dC, dI) vwCl [(mA 0, .inr (4, [.int th, .ref (mA 1), .ref (mA 2), .ref (mA 3), .int (nI (mx_n T)), .int (nI (mx_m F)), .ref (mA 4), .ref (mA 5), .ref (mA 6), .ref (mA 7), .ref (mA 8), .ref (mA 9), .int jo, .ref (mA 10), .ref (mA 11)])), (mA 1, .inl (cZ, 16, .inl isb)), (mA 2, .inl (cZ, 16, .inl isu))] U.heap ∧ va_K (dC, dI) vwCl [(cI, .int), (cJ, .long), (cZ, .boolean)] U ∧ va_D (fun _ => True) [(mA 0, .inr (4, [.int th, .ref (mA 1), .ref (mA 2), .ref (mA 3), .int (nI (mx_n T)), .int (nI (mx_m F)), .ref (mA 4), .ref (mA 5), .ref (mA 6), .ref (mA 7), .ref (mA 8), .ref (mA 9), .int jo, .ref (mA 10), .ref (mA 11)])), (mA 1, .inl (cZ, 16, .inl isb)), (mA 2, .inl (cZ, 16, .inl isu))])) (va_Qv (bu_Q T bs pls msg at_ sv) (fun (u : Int32 × (Nat → Bool) × (Nat → Int32)) t7 => match u with | (th2, bs2, isb2) => va_P (dC, dI) vwCl [(mA 0, .inr (4, [.int th2, .ref (mA 1), .ref (mA 2), .ref (mA 3), .int (nI (mx_n T)), .int (nI (mx_m F)), .ref (mA 4), .ref (mA 5), .ref (mA 6), .ref (mA 7), .ref (mA 8), .ref (mA 9), .int jo, .ref (mA 10), .ref (mA 11)])), (mA 1, .inl (cZ, 16, .inl isb2)), (mA 2, .inl (cZ, 16, .inl isu))] t7.heap ∧ va_K (dC, dI) vwCl [(cI, .int), (cJ, .long), (cZ, .boolean)] t7 ∧ va_D (va_A [(mA 0, .inr (4, [.int th, .ref (mA 1), .ref (mA 2), .ref (mA 3), .int (nI (mx_n T)), .int (nI (mx_m F)), .ref (mA 4), .ref (mA 5), .ref (mA 6), .ref (mA 7), .ref (mA 8), .ref (mA 9), .int jo, .ref (mA 10), .ref (mA 11)])), (mA 1, .inl (cZ, 16, .inl isb)), (mA 2, .inl (cZ, 16, .inl isu))] sz) [(mA 0, .inr (4, [.int th2, .ref (mA 1), .ref (mA 2), .ref (mA 3), .int (nI (mx_n T)), .int (nI (mx_m F)), .ref (mA 4), .ref (mA 5), .ref (mA 6), .ref (mA 7), .ref (mA 8), .ref (mA 9), .int jo, .ref (mA 10), .ref (mA 11)])), (mA 1, .inl (cZ, 16, .inl isb2)), (mA 2, .inl (cZ, 16, .inl isu))]) (va_A [(mA 0, .inr (4, [.int th, .ref (mA 1), .ref (mA 2), .ref (mA 3), .int (nI (mx_n T)), .int (nI (mx_m F)), .ref (mA 4), .ref (mA 5), .ref (mA 6), .ref (mA 7), .ref (mA 8), .ref (mA 9), .int jo, .ref (mA 10), .ref (mA 11)])), (mA 1, .inl (cZ, 16, .inl isb)), (mA 2, .inl (cZ, 16, .inl isu))] sz)) 0 0 (va_A [(mA 0, .inr (4, [.int th, .ref (mA 1), .ref (mA 2), .ref (mA 3), .int (nI (mx_n T)), .int (nI (mx_m F)), .ref (mA 4), .ref (mA 5), .ref (mA 6), .ref (mA 7), .ref (mA 8), .ref (mA 9), .int jo, .ref (mA 10), .ref (mA 11)])), (mA 1, .inl (cZ, 16, .inl isb)), (mA 2, .inl (cZ, 16, .inl isu))] sz) := by
  refine Met.ofW (cc := cX4_builder) (maxL := 2) (ret := none) (by decide) rfl ?_
  intro p e s m args below meth c s₁ B hml hv
  obtain ⟨rfl, hsz, hP, hK, hD0⟩ := hv
  have hx := B.exec
  have hb := B.bytes
  have hr := B.returns
  have hts := atoms_spec (ws := wsX4_builder) B.pre
  have hown : s.vm.findClass RX4 = some m.cls := findClass_of_methodNamed B.named
  have hlocks := B.notSynchronized
  subst hsz
  have hD := hD0.self (sz := s.heap.size)
  generalize hAe : va_A [(mA 0, .inr (4, [.int th, .ref (mA 1), .ref (mA 2), .ref (mA 3), .int (nI (mx_n T)), .int (nI (mx_m F)), .ref (mA 4), .ref (mA 5), .ref (mA 6), .ref (mA 7), .ref (mA 8), .ref (mA 9), .int jo, .ref (mA 10), .ref (mA 11)])), (mA 1, .inl (cZ, 16, .inl isb)), (mA 2, .inl (cZ, 16, .inl isu))] s.heap.size = A at hD ⊢
  have hA : ∀ q : Nat, s.heap.size ≤ q → A q := fun q h => by rw [← hAe]; exact Or.inr h
  have hS : va_S A s.heap s.heap [] := va_S.rf
  have hP : va_P (dC, dI) vwCl [(mA 0, .inr (4, [.int th, .ref (mA 1), .ref (mA 2), .ref (mA 3), .int (nI (mx_n T)), .int (nI (mx_m F)), .ref (mA 4), .ref (mA 5), .ref (mA 6), .ref (mA 7), .ref (mA 8), .ref (mA 9), .int jo, .ref (mA 10), .ref (mA 11)])), (mA 1, .inl (cZ, 16, .inl isb)), (mA 2, .inl (cZ, 16, .inl isu))] s.heap := hP
  have hl := lv_entry ([.ref (mA 0), .int sv]) (n := 2) (Nat.le_of_ble_eq_true rfl)
  rw [lg_entry_eq]
  generalize (lg_sl ([.ref (mA 0), .int sv]) ++ List.replicate (2 - (lg_sl ([.ref (mA 0), .int sv])).length) Slot.unset).toArray = ls at hl ⊢
  have hl : lv_has ls 2 [(0, .ref (mA 0)), (1, .int sv)] := hl
  refine lv_aload_n hx hb dX4_builder_0 rfl (lv_at hl 0 rfl) ?_
  refine lv_iload_n hx hb dX4_builder_1 rfl (lv_at hl 1 rfl) ?_
  refine lv_if_lt (tgt := 11) hx hb dX4_builder_2 (by decide) (fun c1 => ?_) (fun c1 => ?_)
  · refine lv_iconst (v := 1) hx hb dX4_builder_11 (by decide) ?_
    refine lv_goto (tgt := 29) hx hb dX4_builder_12 (by decide) ?_
    refine va_put (D := (dC, dI)) (ci := 4) (v := .int 1) (ty := .int) (C := RX4) (T := TX4) (N := 15) hx hb hts (fun w h => woX4_builder w (inX4 w h)) tyX4 tyX4_ok nmX4 hown hK hP hD hS 0 rfl rfl 0 (by decide) (hts _ (woX4_builder _ wd_493)) (fun _ h9 => h9) rfl (by decide +kernel) rfl rfl (Nat.le_of_ble_eq_true rfl) dX4_builder_29 (fun H locs hP hD hS => ?_)
    have hP : va_P (dC, dI) vwCl [(mA 0, .inr (4, [.int 1, .ref (mA 1), .ref (mA 2), .ref (mA 3), .int (nI (mx_n T)), .int (nI (mx_m F)), .ref (mA 4), .ref (mA 5), .ref (mA 6), .ref (mA 7), .ref (mA 8), .ref (mA 9), .int jo, .ref (mA 10), .ref (mA 11)])), (mA 1, .inl (cZ, 16, .inl isb)), (mA 2, .inl (cZ, 16, .inl isu))] H := hP
    have hD : va_D A [(mA 0, .inr (4, [.int 1, .ref (mA 1), .ref (mA 2), .ref (mA 3), .int (nI (mx_n T)), .int (nI (mx_m F)), .ref (mA 4), .ref (mA 5), .ref (mA 6), .ref (mA 7), .ref (mA 8), .ref (mA 9), .int jo, .ref (mA 10), .ref (mA 11)])), (mA 1, .inl (cZ, 16, .inl isb)), (mA 2, .inl (cZ, 16, .inl isu))] := hD
    refine lv_aload_n hx hb dX4_builder_32 rfl (lv_at hl 0 rfl) ?_
    refine va_get (D := (dC, dI)) (ci := 4) (v := .int 1) (C := RX4) (T := TX4) (N := 15) hx hb hts (fun w h => woX4_builder w (inX4 w h)) hown hK hP 0 rfl rfl 0 (by decide) (hts _ (woX4_builder _ wd_493)) (fun _ h9 => h9) rfl dX4_builder_33 ?_
    refine lv_if_ne (tgt := 46) hx hb dX4_builder_36 (by decide) (fun c9 => ?_) (fun c9 => ?_)
    · have hP9 := hP.sub (ws' := [(mA 0, .inr (4, [.int 1, .ref (mA 1), .ref (mA 2), .ref (mA 3), .int (nI (mx_n T)), .int (nI (mx_m F)), .ref (mA 4), .ref (mA 5), .ref (mA 6), .ref (mA 7), .ref (mA 8), .ref (mA 9), .int jo, .ref (mA 10), .ref (mA 11)])), (mA 1, .inl (cZ, 16, .inl isb)), (mA 2, .inl (cZ, 16, .inl isu))]) [0, 1, 2] rfl
      have hD9 := hD.sub (ws' := [(mA 0, .inr (4, [.int 1, .ref (mA 1), .ref (mA 2), .ref (mA 3), .int (nI (mx_n T)), .int (nI (mx_m F)), .ref (mA 4), .ref (mA 5), .ref (mA 6), .ref (mA 7), .ref (mA 8), .ref (mA 9), .int jo, .ref (mA 10), .ref (mA 11)])), (mA 1, .inl (cZ, 16, .inl isb)), (mA 2, .inl (cZ, 16, .inl isu))]) [0, 1, 2] (by decide) rfl
      exact W.vret hx hb hr (fun t9 ht9 hW9 => ⟨⟨(1, bs, isb), rfl, ⟨Or.inl ⟨ix_lo (by decide) c1, rfl, rfl⟩, hB, hmt⟩, by rw [ht9]; exact hP9, va_K.moved hW9.alike hK, hD9⟩, hS.F ht9⟩) hS.2.2 dX4_builder_46
    · exact absurd c9 (by decide)
  · refine lv_iload_n hx hb dX4_builder_5 rfl (lv_at hl 1 rfl) ?_
    refine lv_bipush (v := 16) hx hb dX4_builder_6 (by decide) ?_
    refine lv_icmp_lt (tgt := 15) hx hb dX4_builder_8 (by decide) (fun c2 => ?_) (fun c2 => ?_)
    · obtain ⟨s0, hs0, rfl⟩ := ix_in (y := 16) (n := 16) (by decide) rfl c1 (fun q => absurd c2 (Int32.not_lt.mpr q))
      refine lv_aload_n hx hb dX4_builder_15 rfl (lv_at hl 0 rfl) ?_
      refine va_get (D := (dC, dI)) (ci := 4) (v := .ref (mA 2)) (C := RX4) (T := TX4) (N := 15) hx hb hts (fun w h => woX4_builder w (inX4 w h)) hown hK hP 0 rfl rfl 2 (by decide) (hts _ (woX4_builder _ wd_495)) (fun _ h9 => h9) rfl dX4_builder_16 ?_
      refine lv_iload_n hx hb dX4_builder_19 rfl (lv_at hl 1 rfl) ?_
      refine va_zald hx hb hK hP 2 2 rfl rfl (vp_in_nI (by omega) (by omega)) dX4_builder_20 ?_
      rw [show (nI s0).toNatClampNeg = s0 from nI_clamp (by omega)]
      refine lv_if_eq (tgt := 28) hx hb dX4_builder_21 (by decide) (fun c3 => ?_) (fun c3 => ?_)
      · have hnu := zb_f (hU s0 hs0) c3
        refine lv_iconst (v := 0) hx hb dX4_builder_28 (by decide) ?_
        refine va_put (D := (dC, dI)) (ci := 4) (v := .int 0) (ty := .int) (C := RX4) (T := TX4) (N := 15) hx hb hts (fun w h => woX4_builder w (inX4 w h)) tyX4 tyX4_ok nmX4 hown hK hP hD hS 0 rfl rfl 0 (by decide) (hts _ (woX4_builder _ wd_493)) (fun _ h9 => h9) rfl (by decide +kernel) rfl rfl (Nat.le_of_ble_eq_true rfl) dX4_builder_29 (fun H locs hP hD hS => ?_)
        have hP : va_P (dC, dI) vwCl [(mA 0, .inr (4, [.int 0, .ref (mA 1), .ref (mA 2), .ref (mA 3), .int (nI (mx_n T)), .int (nI (mx_m F)), .ref (mA 4), .ref (mA 5), .ref (mA 6), .ref (mA 7), .ref (mA 8), .ref (mA 9), .int jo, .ref (mA 10), .ref (mA 11)])), (mA 1, .inl (cZ, 16, .inl isb)), (mA 2, .inl (cZ, 16, .inl isu))] H := hP
        have hD : va_D A [(mA 0, .inr (4, [.int 0, .ref (mA 1), .ref (mA 2), .ref (mA 3), .int (nI (mx_n T)), .int (nI (mx_m F)), .ref (mA 4), .ref (mA 5), .ref (mA 6), .ref (mA 7), .ref (mA 8), .ref (mA 9), .int jo, .ref (mA 10), .ref (mA 11)])), (mA 1, .inl (cZ, 16, .inl isb)), (mA 2, .inl (cZ, 16, .inl isu))] := hD
        refine lv_aload_n hx hb dX4_builder_32 rfl (lv_at hl 0 rfl) ?_
        refine va_get (D := (dC, dI)) (ci := 4) (v := .int 0) (C := RX4) (T := TX4) (N := 15) hx hb hts (fun w h => woX4_builder w (inX4 w h)) hown hK hP 0 rfl rfl 0 (by decide) (hts _ (woX4_builder _ wd_493)) (fun _ h9 => h9) rfl dX4_builder_33 ?_
        refine lv_if_ne (tgt := 46) hx hb dX4_builder_36 (by decide) (fun c9 => ?_) (fun c9 => ?_)
        · exact absurd rfl c9
        · refine lv_aload_n hx hb dX4_builder_39 rfl (lv_at hl 0 rfl) ?_
          refine va_get (D := (dC, dI)) (ci := 4) (v := .ref (mA 1)) (C := RX4) (T := TX4) (N := 15) hx hb hts (fun w h => woX4_builder w (inX4 w h)) hown hK hP 0 rfl rfl 1 (by decide) (hts _ (woX4_builder _ wd_494)) (fun _ h9 => h9) rfl dX4_builder_40 ?_
          refine lv_iload_n hx hb dX4_builder_43 rfl (lv_at hl 1 rfl) ?_
          refine lv_iconst (v := 1) hx hb dX4_builder_44 (by decide) ?_
          refine va_zast hx hb hK hP hD hS 1 2 rfl rfl (vp_in_nI (by omega) (by omega)) dX4_builder_45 (fun H locs hP hD hS => ?_)
          rw [show (nI s0).toNatClampNeg = s0 from nI_clamp (by omega)] at hP hD
          rw [show vp_nar .boolean 1 = 1 from by decide] at hP hD
          have hP : va_P (dC, dI) vwCl [(mA 0, .inr (4, [.int 0, .ref (mA 1), .ref (mA 2), .ref (mA 3), .int (nI (mx_n T)), .int (nI (mx_m F)), .ref (mA 4), .ref (mA 5), .ref (mA 6), .ref (mA 7), .ref (mA 8), .ref (mA 9), .int jo, .ref (mA 10), .ref (mA 11)])), (mA 1, .inl (cZ, 16, .inl (upd isb s0 1))), (mA 2, .inl (cZ, 16, .inl isu))] H := hP
          have hD : va_D A [(mA 0, .inr (4, [.int 0, .ref (mA 1), .ref (mA 2), .ref (mA 3), .int (nI (mx_n T)), .int (nI (mx_m F)), .ref (mA 4), .ref (mA 5), .ref (mA 6), .ref (mA 7), .ref (mA 8), .ref (mA 9), .int jo, .ref (mA 10), .ref (mA 11)])), (mA 1, .inl (cZ, 16, .inl (upd isb s0 1))), (mA 2, .inl (cZ, 16, .inl isu))] := hD
          have hP9 := hP.sub (ws' := [(mA 0, .inr (4, [.int 0, .ref (mA 1), .ref (mA 2), .ref (mA 3), .int (nI (mx_n T)), .int (nI (mx_m F)), .ref (mA 4), .ref (mA 5), .ref (mA 6), .ref (mA 7), .ref (mA 8), .ref (mA 9), .int jo, .ref (mA 10), .ref (mA 11)])), (mA 1, .inl (cZ, 16, .inl (upd isb s0 1))), (mA 2, .inl (cZ, 16, .inl isu))]) [0, 1, 2] rfl
          have hD9 := hD.sub (ws' := [(mA 0, .inr (4, [.int 0, .ref (mA 1), .ref (mA 2), .ref (mA 3), .int (nI (mx_n T)), .int (nI (mx_m F)), .ref (mA 4), .ref (mA 5), .ref (mA 6), .ref (mA 7), .ref (mA 8), .ref (mA 9), .int jo, .ref (mA 10), .ref (mA 11)])), (mA 1, .inl (cZ, 16, .inl (upd isb s0 1))), (mA 2, .inl (cZ, 16, .inl isu))]) [0, 1, 2] (by decide) rfl
          exact W.vret hx hb hr (fun t9 ht9 hW9 => ⟨⟨(0, (fun x => if x = s0 then true else bs x), upd isb s0 1), rfl, ⟨Or.inr ⟨s0, hs0, rfl, Or.inr ⟨hnu, rfl, rfl⟩⟩, mdB_set hB s0, mdT_isb hmt (fun t ht => pk_un (fun q => hnu ⟨t, ht, q⟩))⟩, by rw [ht9]; exact hP9, va_K.moved hW9.alike hK, hD9⟩, hS.F ht9⟩) hS.2.2 dX4_builder_46
      · refine lv_iconst (v := 2) hx hb dX4_builder_24 (by decide) ?_
        refine lv_goto (tgt := 29) hx hb dX4_builder_25 (by decide) ?_
        refine va_put (D := (dC, dI)) (ci := 4) (v := .int 2) (ty := .int) (C := RX4) (T := TX4) (N := 15) hx hb hts (fun w h => woX4_builder w (inX4 w h)) tyX4 tyX4_ok nmX4 hown hK hP hD hS 0 rfl rfl 0 (by decide) (hts _ (woX4_builder _ wd_493)) (fun _ h9 => h9) rfl (by decide +kernel) rfl rfl (Nat.le_of_ble_eq_true rfl) dX4_builder_29 (fun H locs hP hD hS => ?_)
        have hP : va_P (dC, dI) vwCl [(mA 0, .inr (4, [.int 2, .ref (mA 1), .ref (mA 2), .ref (mA 3), .int (nI (mx_n T)), .int (nI (mx_m F)), .ref (mA 4), .ref (mA 5), .ref (mA 6), .ref (mA 7), .ref (mA 8), .ref (mA 9), .int jo, .ref (mA 10), .ref (mA 11)])), (mA 1, .inl (cZ, 16, .inl isb)), (mA 2, .inl (cZ, 16, .inl isu))] H := hP
        have hD : va_D A [(mA 0, .inr (4, [.int 2, .ref (mA 1), .ref (mA 2), .ref (mA 3), .int (nI (mx_n T)), .int (nI (mx_m F)), .ref (mA 4), .ref (mA 5), .ref (mA 6), .ref (mA 7), .ref (mA 8), .ref (mA 9), .int jo, .ref (mA 10), .ref (mA 11)])), (mA 1, .inl (cZ, 16, .inl isb)), (mA 2, .inl (cZ, 16, .inl isu))] := hD
        refine lv_aload_n hx hb dX4_builder_32 rfl (lv_at hl 0 rfl) ?_
        refine va_get (D := (dC, dI)) (ci := 4) (v := .int 2) (C := RX4) (T := TX4) (N := 15) hx hb hts (fun w h => woX4_builder w (inX4 w h)) hown hK hP 0 rfl rfl 0 (by decide) (hts _ (woX4_builder _ wd_493)) (fun _ h9 => h9) rfl dX4_builder_33 ?_
        refine lv_if_ne (tgt := 46) hx hb dX4_builder_36 (by decide) (fun c9 => ?_) (fun c9 => ?_)
        · have hP9 := hP.sub (ws' := [(mA 0, .inr (4, [.int 2, .ref (mA 1), .ref (mA 2), .ref (mA 3), .int (nI (mx_n T)), .int (nI (mx_m F)), .ref (mA 4), .ref (mA 5), .ref (mA 6), .ref (mA 7), .ref (mA 8), .ref (mA 9), .int jo, .ref (mA 10), .ref (mA 11)])), (mA 1, .inl (cZ, 16, .inl isb)), (mA 2, .inl (cZ, 16, .inl isu))]) [0, 1, 2] rfl
          have hD9 := hD.sub (ws' := [(mA 0, .inr (4, [.int 2, .ref (mA 1), .ref (mA 2), .ref (mA 3), .int (nI (mx_n T)), .int (nI (mx_m F)), .ref (mA 4), .ref (mA 5), .ref (mA 6), .ref (mA 7), .ref (mA 8), .ref (mA 9), .int jo, .ref (mA 10), .ref (mA 11)])), (mA 1, .inl (cZ, 16, .inl isb)), (mA 2, .inl (cZ, 16, .inl isu))]) [0, 1, 2] (by decide) rfl
          exact W.vret hx hb hr (fun t9 ht9 hW9 => ⟨⟨(2, bs, isb), rfl, ⟨Or.inr ⟨s0, hs0, rfl, Or.inl ⟨zb_t (hU s0 hs0) c3, rfl, rfl⟩⟩, hB, hmt⟩, by rw [ht9]; exact hP9, va_K.moved hW9.alike hK, hD9⟩, hS.F ht9⟩) hS.2.2 dX4_builder_46
        · exact absurd c9 (by decide)
    · refine lv_iconst (v := 1) hx hb dX4_builder_11 (by decide) ?_
      refine lv_goto (tgt := 29) hx hb dX4_builder_12 (by decide) ?_
      refine va_put (D := (dC, dI)) (ci := 4) (v := .int 1) (ty := .int) (C := RX4) (T := TX4) (N := 15) hx hb hts (fun w h => woX4_builder w (inX4 w h)) tyX4 tyX4_ok nmX4 hown hK hP hD hS 0 rfl rfl 0 (by decide) (hts _ (woX4_builder _ wd_493)) (fun _ h9 => h9) rfl (by decide +kernel) rfl rfl (Nat.le_of_ble_eq_true rfl) dX4_builder_29 (fun H locs hP hD hS => ?_)
      have hP : va_P (dC, dI) vwCl [(mA 0, .inr (4, [.int 1, .ref (mA 1), .ref (mA 2), .ref (mA 3), .int (nI (mx_n T)), .int (nI (mx_m F)), .ref (mA 4), .ref (mA 5), .ref (mA 6), .ref (mA 7), .ref (mA 8), .ref (mA 9), .int jo, .ref (mA 10), .ref (mA 11)])), (mA 1, .inl (cZ, 16, .inl isb)), (mA 2, .inl (cZ, 16, .inl isu))] H := hP
      have hD : va_D A [(mA 0, .inr (4, [.int 1, .ref (mA 1), .ref (mA 2), .ref (mA 3), .int (nI (mx_n T)), .int (nI (mx_m F)), .ref (mA 4), .ref (mA 5), .ref (mA 6), .ref (mA 7), .ref (mA 8), .ref (mA 9), .int jo, .ref (mA 10), .ref (mA 11)])), (mA 1, .inl (cZ, 16, .inl isb)), (mA 2, .inl (cZ, 16, .inl isu))] := hD
      refine lv_aload_n hx hb dX4_builder_32 rfl (lv_at hl 0 rfl) ?_
      refine va_get (D := (dC, dI)) (ci := 4) (v := .int 1) (C := RX4) (T := TX4) (N := 15) hx hb hts (fun w h => woX4_builder w (inX4 w h)) hown hK hP 0 rfl rfl 0 (by decide) (hts _ (woX4_builder _ wd_493)) (fun _ h9 => h9) rfl dX4_builder_33 ?_
      refine lv_if_ne (tgt := 46) hx hb dX4_builder_36 (by decide) (fun c9 => ?_) (fun c9 => ?_)
      · have hP9 := hP.sub (ws' := [(mA 0, .inr (4, [.int 1, .ref (mA 1), .ref (mA 2), .ref (mA 3), .int (nI (mx_n T)), .int (nI (mx_m F)), .ref (mA 4), .ref (mA 5), .ref (mA 6), .ref (mA 7), .ref (mA 8), .ref (mA 9), .int jo, .ref (mA 10), .ref (mA 11)])), (mA 1, .inl (cZ, 16, .inl isb)), (mA 2, .inl (cZ, 16, .inl isu))]) [0, 1, 2] rfl
        have hD9 := hD.sub (ws' := [(mA 0, .inr (4, [.int 1, .ref (mA 1), .ref (mA 2), .ref (mA 3), .int (nI (mx_n T)), .int (nI (mx_m F)), .ref (mA 4), .ref (mA 5), .ref (mA 6), .ref (mA 7), .ref (mA 8), .ref (mA 9), .int jo, .ref (mA 10), .ref (mA 11)])), (mA 1, .inl (cZ, 16, .inl isb)), (mA 2, .inl (cZ, 16, .inl isu))]) [0, 1, 2] (by decide) rfl
        exact W.vret hx hb hr (fun t9 ht9 hW9 => ⟨⟨(1, bs, isb), rfl, ⟨Or.inl ⟨ix_hi (y := 16) (by decide) rfl (Int32.not_lt.mp c2), rfl, rfl⟩, hB, hmt⟩, by rw [ht9]; exact hP9, va_K.moved hW9.alike hK, hD9⟩, hS.F ht9⟩) hS.2.2 dX4_builder_46
      · exact absurd c9 (by decide)

def ft_Q (T : mx_T) (F : mx_F) (a b sm r : Int32) (u : mx_F × Int32 × (Nat → Int32) × (Nat → Int32) × (Nat → Int32)) : Prop := match u with
  | (F2, th2, on2, tw2, sa2) => fa_A T F a b sm th2 r F2 ∧ fk_3 T F2 on2 tw2 sa2

set_option maxHeartbeats 4000000 in
set_option maxRecDepth 100000 in
/-- the reference: fact -/
theorem m_fact (l : Launch) (dC : Nat → ClassId) (dI : Nat → Nat → Nat) (cI cJ cZ : ClassId) (T : mx_T) (F : mx_F) (mA : Nat → Nat) (th : Int32) (jo : Int32) (on : Nat → Int32) (tw : Nat → Int32) (sa : Nat → Int32) (a : Int32) (b : Int32) (sm : Int32) (sz : Nat) (hn : mx_n T ≤ 60) (hmf : fk_3 T F on tw sa) (hsm : sm = 0 ∨ sm = 1) : Met l yX4_fact wsX4_fact ({ frames := 1, cells := 0, slots := 0, locals := 21 }) (va_Pc [.ref (mA 0), .int a, .int b, .int sm] (fun U => U.heap.size = sz ∧ va_P (dC, dI) vwCl [(mA 0, .inr (4, [.int th, .ref (mA 1), .ref (mA 2), .ref (mA 3), .int (nI (mx_n T)), .int (nI (mx_m F)), .ref (mA 4), .ref (mA 5), .ref (mA 6), .ref (mA 7), .ref (mA 8), .ref (mA 9), .int jo, .ref (mA 10), .ref (mA 11)])), (mA 6, .inl (cI, 40, .inl on)), (mA 7, .inl (cI, 40, .inl tw)), (mA 8, .inl (cZ, 40, .inl sa))] U.heap ∧ va_K (dC, dI) vwCl [(cI, .int), (cJ, .long), (cZ, .boolean)] U ∧ va_D (fun _ => True) [(mA 0, .inr (4, [.int th, .ref (mA 1), .ref (mA 2), .ref (mA 3), .int (nI (mx_n T)), .int (nI (mx_m F)), .ref (mA 4), .ref (mA 5), .ref (mA 6), .ref (mA 7), .ref (mA 8), .ref (mA 9), .int jo, .ref (mA 10), .ref (mA 11)])), (mA 6, .inl (cI, 40, .inl on)), (mA 7, .inl (cI, 40, .inl tw)), (mA 8, .inl (cZ, 40, .inl sa))])) (va_Qi (ft_Q T F a b sm) (fun (u : mx_F × Int32 × (Nat → Int32) × (Nat → Int32) × (Nat → Int32)) t7 => match u with | (F2, th2, on2, tw2, sa2) => va_P (dC, dI) vwCl [(mA 0, .inr (4, [.int th2, .ref (mA 1), .ref (mA 2), .ref (mA 3), .int (nI (mx_n T)), .int (nI (mx_m F2)), .ref (mA 4), .ref (mA 5), .ref (mA 6), .ref (mA 7), .ref (mA 8), .ref (mA 9), .int jo, .ref (mA 10), .ref (mA 11)])), (mA 6, .inl (cI, 40, .inl on2)), (mA 7, .inl (cI, 40, .inl tw2)), (mA 8, .inl (cZ, 40, .inl sa2))] t7.heap ∧ va_K (dC, dI) vwCl [(cI, .int), (cJ, .long), (cZ, .boolean)] t7 ∧ va_D (va_A [(mA 0, .inr (4, [.int th, .ref (mA 1), .ref (mA 2), .ref (mA 3), .int (nI (mx_n T)), .int (nI (mx_m F)), .ref (mA 4), .ref (mA 5), .ref (mA 6), .ref (mA 7), .ref (mA 8), .ref (mA 9), .int jo, .ref (mA 10), .ref (mA 11)])), (mA 6, .inl (cI, 40, .inl on)), (mA 7, .inl (cI, 40, .inl tw)), (mA 8, .inl (cZ, 40, .inl sa))] sz) [(mA 0, .inr (4, [.int th2, .ref (mA 1), .ref (mA 2), .ref (mA 3), .int (nI (mx_n T)), .int (nI (mx_m F2)), .ref (mA 4), .ref (mA 5), .ref (mA 6), .ref (mA 7), .ref (mA 8), .ref (mA 9), .int jo, .ref (mA 10), .ref (mA 11)])), (mA 6, .inl (cI, 40, .inl on2)), (mA 7, .inl (cI, 40, .inl tw2)), (mA 8, .inl (cZ, 40, .inl sa2))]) (va_A [(mA 0, .inr (4, [.int th, .ref (mA 1), .ref (mA 2), .ref (mA 3), .int (nI (mx_n T)), .int (nI (mx_m F)), .ref (mA 4), .ref (mA 5), .ref (mA 6), .ref (mA 7), .ref (mA 8), .ref (mA 9), .int jo, .ref (mA 10), .ref (mA 11)])), (mA 6, .inl (cI, 40, .inl on)), (mA 7, .inl (cI, 40, .inl tw)), (mA 8, .inl (cZ, 40, .inl sa))] sz)) 0 0 (va_A [(mA 0, .inr (4, [.int th, .ref (mA 1), .ref (mA 2), .ref (mA 3), .int (nI (mx_n T)), .int (nI (mx_m F)), .ref (mA 4), .ref (mA 5), .ref (mA 6), .ref (mA 7), .ref (mA 8), .ref (mA 9), .int jo, .ref (mA 10), .ref (mA 11)])), (mA 6, .inl (cI, 40, .inl on)), (mA 7, .inl (cI, 40, .inl tw)), (mA 8, .inl (cZ, 40, .inl sa))] sz) := by
  refine Met.ofW (cc := cX4_fact) (maxL := 4) (ret := (some .int)) (by decide) rfl ?_
  intro p e s m args below meth c s₁ B hml hv
  obtain ⟨rfl, hsz, hP, hK, hD0⟩ := hv
  have hx := B.exec
  have hb := B.bytes
  have hr := B.returns
  have hts := atoms_spec (ws := wsX4_fact) B.pre
  have hown : s.vm.findClass RX4 = some m.cls := findClass_of_methodNamed B.named
  have hlocks := B.notSynchronized
  subst hsz
  have hD := hD0.self (sz := s.heap.size)
  generalize hAe : va_A [(mA 0, .inr (4, [.int th, .ref (mA 1), .ref (mA 2), .ref (mA 3), .int (nI (mx_n T)), .int (nI (mx_m F)), .ref (mA 4), .ref (mA 5), .ref (mA 6), .ref (mA 7), .ref (mA 8), .ref (mA 9), .int jo, .ref (mA 10), .ref (mA 11)])), (mA 6, .inl (cI, 40, .inl on)), (mA 7, .inl (cI, 40, .inl tw)), (mA 8, .inl (cZ, 40, .inl sa))] s.heap.size = A at hD ⊢
  have hA : ∀ q : Nat, s.heap.size ≤ q → A q := fun q h => by rw [← hAe]; exact Or.inr h
  have hS : va_S A s.heap s.heap [] := va_S.rf
  have hP : va_P (dC, dI) vwCl [(mA 0, .inr (4, [.int th, .ref (mA 1), .ref (mA 2), .ref (mA 3), .int (nI (mx_n T)), .int (nI (mx_m F)), .ref (mA 4), .ref (mA 5), .ref (mA 6), .ref (mA 7), .ref (mA 8), .ref (mA 9), .int jo, .ref (mA 10), .ref (mA 11)])), (mA 6, .inl (cI, 40, .inl on)), (mA 7, .inl (cI, 40, .inl tw)), (mA 8, .inl (cZ, 40, .inl sa))] s.heap := hP
  have hl := lv_entry ([.ref (mA 0), .int a, .int b, .int sm]) (n := 4) (Nat.le_of_ble_eq_true rfl)
  rw [lg_entry_eq]
  generalize (lg_sl ([.ref (mA 0), .int a, .int b, .int sm]) ++ List.replicate (4 - (lg_sl ([.ref (mA 0), .int a, .int b, .int sm])).length) Slot.unset).toArray = ls at hl ⊢
  have hl : lv_has ls 4 [(0, .ref (mA 0)), (1, .int a), (2, .int b), (3, .int sm)] := hl
  refine lv_aload_n hx hb dX4_fact_0 rfl (lv_at hl 0 rfl) ?_
  refine lv_aload_n hx hb dX4_fact_1 rfl (lv_at hl 0 rfl) ?_
  refine lv_iload_n hx hb dX4_fact_2 rfl (lv_at hl 1 rfl) ?_
  have hPc := hP.sub (ws' := [(mA 0, .inr (4, [.int th, .ref (mA 1), .ref (mA 2), .ref (mA 3), .int (nI (mx_n T)), .int (nI (mx_m F)), .ref (mA 4), .ref (mA 5), .ref (mA 6), .ref (mA 7), .ref (mA 8), .ref (mA 9), .int jo, .ref (mA 10), .ref (mA 11)]))]) [0] rfl
  refine vp_callSi (W.runV (As := [.int a]) (rest := [.ref (mA 0)]) ⟨hx, hb, hml, hown, hts⟩ (m_isTerm l dC dI cI cJ cZ T F mA th jo a hn) (cwV 1 hts (w0_goodV woX4_fact wd_558 wd_555 wd_557 ws_13 wd_5) rfl rfl rfl (by decide +kernel) ⟨Nat.le_of_ble_eq_true rfl, Nat.le_of_ble_eq_true rfl⟩) ⟨fun a U g mk q => by obtain ⟨q0, qP, qK⟩ := q; exact ⟨q0, qP, va_K.moved (u := U) (U := U.calling g mk a) (Vm.Alike.refl U.vm) qK⟩, va_recv hK hP (ci := 4) (q0 := 0) rfl rfl, fun U hU hW => ⟨rfl, by rw [hU]; exact hPc, va_K.moved hW.alike hK⟩⟩ rfl rfl hl.1 rfl (lv_room (Nat.le_of_ble_eq_true rfl)) dX4_fact_3 ⟨Nat.zero_le _, Nat.zero_le _⟩) (fun r1 hr1 => ?_)
  refine lv_if_eq (tgt := 17) hx hb dX4_fact_6 (by decide) (fun c1 => ?_) (fun c1 => ?_)
  · have hbad : ¬ (ix (mx_n T) a ∧ ix (mx_n T) b) := fun z => zb_f hr1 c1 z.1
    refine lv_iconst (v := 1) hx hb dX4_fact_17 (by decide) ?_
    refine lv_goto (tgt := 35) hx hb dX4_fact_18 (by decide) ?_
    refine va_put (D := (dC, dI)) (ci := 4) (v := .int 1) (ty := .int) (C := RX4) (T := TX4) (N := 15) hx hb hts (fun w h => woX4_fact w (inX4 w h)) tyX4 tyX4_ok nmX4 hown hK hP hD hS 0 rfl rfl 0 (by decide) (hts _ (woX4_fact _ wd_493)) (fun _ h9 => h9) rfl (by decide +kernel) rfl rfl (Nat.le_of_ble_eq_true rfl) dX4_fact_35 (fun H locs hP hD hS => ?_)
    have hP : va_P (dC, dI) vwCl [(mA 0, .inr (4, [.int 1, .ref (mA 1), .ref (mA 2), .ref (mA 3), .int (nI (mx_n T)), .int (nI (mx_m F)), .ref (mA 4), .ref (mA 5), .ref (mA 6), .ref (mA 7), .ref (mA 8), .ref (mA 9), .int jo, .ref (mA 10), .ref (mA 11)])), (mA 6, .inl (cI, 40, .inl on)), (mA 7, .inl (cI, 40, .inl tw)), (mA 8, .inl (cZ, 40, .inl sa))] H := hP
    have hD : va_D A [(mA 0, .inr (4, [.int 1, .ref (mA 1), .ref (mA 2), .ref (mA 3), .int (nI (mx_n T)), .int (nI (mx_m F)), .ref (mA 4), .ref (mA 5), .ref (mA 6), .ref (mA 7), .ref (mA 8), .ref (mA 9), .int jo, .ref (mA 10), .ref (mA 11)])), (mA 6, .inl (cI, 40, .inl on)), (mA 7, .inl (cI, 40, .inl tw)), (mA 8, .inl (cZ, 40, .inl sa))] := hD
    refine lv_aload_n hx hb dX4_fact_38 rfl (lv_at hl 0 rfl) ?_
    refine va_get (D := (dC, dI)) (ci := 4) (v := .int 1) (C := RX4) (T := TX4) (N := 15) hx hb hts (fun w h => woX4_fact w (inX4 w h)) hown hK hP 0 rfl rfl 0 (by decide) (hts _ (woX4_fact _ wd_493)) (fun _ h9 => h9) rfl dX4_fact_39 ?_
    refine lv_if_le (tgt := 47) hx hb dX4_fact_42 (by decide) (fun c9 => ?_) (fun c9 => ?_)
    · exact absurd c9 (by decide)
    · refine lv_iconst (v := 0) hx hb dX4_fact_45 (by decide) ?_
      have hP9 := hP.sub (ws' := [(mA 0, .inr (4, [.int 1, .ref (mA 1), .ref (mA 2), .ref (mA 3), .int (nI (mx_n T)), .int (nI (mx_m F)), .ref (mA 4), .ref (mA 5), .ref (mA 6), .ref (mA 7), .ref (mA 8), .ref (mA 9), .int jo, .ref (mA 10), .ref (mA 11)])), (mA 6, .inl (cI, 40, .inl on)), (mA 7, .inl (cI, 40, .inl tw)), (mA 8, .inl (cZ, 40, .inl sa))]) [0, 1, 2, 3] rfl
      have hD9 := hD.sub (ws' := [(mA 0, .inr (4, [.int 1, .ref (mA 1), .ref (mA 2), .ref (mA 3), .int (nI (mx_n T)), .int (nI (mx_m F)), .ref (mA 4), .ref (mA 5), .ref (mA 6), .ref (mA 7), .ref (mA 8), .ref (mA 9), .int jo, .ref (mA 10), .ref (mA 11)])), (mA 6, .inl (cI, 40, .inl on)), (mA 7, .inl (cI, 40, .inl tw)), (mA 8, .inl (cZ, 40, .inl sa))]) [0, 1, 2, 3] (by decide) rfl
      exact W.iret (v := 0) hx hb hr (fun t9 ht9 hW9 => ⟨⟨0, (F, 1, on, tw, sa), rfl, ⟨Or.inr ⟨hbad, rfl, rfl⟩, hmf⟩, by rw [ht9]; exact hP9, va_K.moved hW9.alike hK, hD9⟩, hS.F ht9⟩) hS.2.2 dX4_fact_46
  · refine lv_aload_n hx hb dX4_fact_9 rfl (lv_at hl 0 rfl) ?_
    refine lv_iload_n hx hb dX4_fact_10 rfl (lv_at hl 2 rfl) ?_
    have hPc := hP.sub (ws' := [(mA 0, .inr (4, [.int th, .ref (mA 1), .ref (mA 2), .ref (mA 3), .int (nI (mx_n T)), .int (nI (mx_m F)), .ref (mA 4), .ref (mA 5), .ref (mA 6), .ref (mA 7), .ref (mA 8), .ref (mA 9), .int jo, .ref (mA 10), .ref (mA 11)]))]) [0] rfl
    refine vp_callSi (W.runV (As := [.int b]) (rest := [.ref (mA 0)]) ⟨hx, hb, hml, hown, hts⟩ (m_isTerm l dC dI cI cJ cZ T F mA th jo b hn) (cwV 1 hts (w0_goodV woX4_fact wd_558 wd_555 wd_557 ws_13 wd_5) rfl rfl rfl (by decide +kernel) ⟨Nat.le_of_ble_eq_true rfl, Nat.le_of_ble_eq_true rfl⟩) ⟨fun a U g mk q => by obtain ⟨q0, qP, qK⟩ := q; exact ⟨q0, qP, va_K.moved (u := U) (U := U.calling g mk a) (Vm.Alike.refl U.vm) qK⟩, va_recv hK hP (ci := 4) (q0 := 0) rfl rfl, fun U hU hW => ⟨rfl, by rw [hU]; exact hPc, va_K.moved hW.alike hK⟩⟩ rfl rfl hl.1 rfl (lv_room (Nat.le_of_ble_eq_true rfl)) dX4_fact_11 ⟨Nat.zero_le _, Nat.zero_le _⟩) (fun r2 hr2 => ?_)
    refine lv_if_ne (tgt := 21) hx hb dX4_fact_14 (by decide) (fun c2 => ?_) (fun c2 => ?_)
    · obtain ⟨x, hx0, rfl⟩ := zb_t hr1 c1
      obtain ⟨y, hy0, rfl⟩ := zb_t hr2 c2
      have hm := hmf.1
      refine lv_aload_n hx hb dX4_fact_21 rfl (lv_at hl 0 rfl) ?_
      refine va_get (D := (dC, dI)) (ci := 4) (v := .int (nI (mx_m F))) (C := RX4) (T := TX4) (N := 15) hx hb hts (fun w h => woX4_fact w (inX4 w h)) hown hK hP 0 rfl rfl 5 (by decide) (hts _ (woX4_fact _ wd_498)) (fun _ h9 => h9) rfl dX4_fact_22 ?_
      refine lv_bipush (v := 40) hx hb dX4_fact_25 (by decide) ?_
      refine lv_icmp_ne (tgt := 34) hx hb dX4_fact_27 (by decide) (fun c8 => ?_) (fun c8 => ?_)
      · have hlt : mx_m F < 40 := by have : ¬ mx_m F = 40 := fun q => c8 (by rw [q]; rfl); omega
        refine lv_iconst (v := 0) hx hb dX4_fact_34 (by decide) ?_
        refine va_put (D := (dC, dI)) (ci := 4) (v := .int 0) (ty := .int) (C := RX4) (T := TX4) (N := 15) hx hb hts (fun w h => woX4_fact w (inX4 w h)) tyX4 tyX4_ok nmX4 hown hK hP hD hS 0 rfl rfl 0 (by decide) (hts _ (woX4_fact _ wd_493)) (fun _ h9 => h9) rfl (by decide +kernel) rfl rfl (Nat.le_of_ble_eq_true rfl) dX4_fact_35 (fun H locs hP hD hS => ?_)
        have hP : va_P (dC, dI) vwCl [(mA 0, .inr (4, [.int 0, .ref (mA 1), .ref (mA 2), .ref (mA 3), .int (nI (mx_n T)), .int (nI (mx_m F)), .ref (mA 4), .ref (mA 5), .ref (mA 6), .ref (mA 7), .ref (mA 8), .ref (mA 9), .int jo, .ref (mA 10), .ref (mA 11)])), (mA 6, .inl (cI, 40, .inl on)), (mA 7, .inl (cI, 40, .inl tw)), (mA 8, .inl (cZ, 40, .inl sa))] H := hP
        have hD : va_D A [(mA 0, .inr (4, [.int 0, .ref (mA 1), .ref (mA 2), .ref (mA 3), .int (nI (mx_n T)), .int (nI (mx_m F)), .ref (mA 4), .ref (mA 5), .ref (mA 6), .ref (mA 7), .ref (mA 8), .ref (mA 9), .int jo, .ref (mA 10), .ref (mA 11)])), (mA 6, .inl (cI, 40, .inl on)), (mA 7, .inl (cI, 40, .inl tw)), (mA 8, .inl (cZ, 40, .inl sa))] := hD
        refine lv_aload_n hx hb dX4_fact_38 rfl (lv_at hl 0 rfl) ?_
        refine va_get (D := (dC, dI)) (ci := 4) (v := .int 0) (C := RX4) (T := TX4) (N := 15) hx hb hts (fun w h => woX4_fact w (inX4 w h)) hown hK hP 0 rfl rfl 0 (by decide) (hts _ (woX4_fact _ wd_493)) (fun _ h9 => h9) rfl dX4_fact_39 ?_
        refine lv_if_le (tgt := 47) hx hb dX4_fact_42 (by decide) (fun c9 => ?_) (fun c9 => ?_)
        · refine lv_aload_n hx hb dX4_fact_47 rfl (lv_at hl 0 rfl) ?_
          refine va_get (D := (dC, dI)) (ci := 4) (v := .ref (mA 6)) (C := RX4) (T := TX4) (N := 15) hx hb hts (fun w h => woX4_fact w (inX4 w h)) hown hK hP 0 rfl rfl 8 (by decide) (hts _ (woX4_fact _ wd_501)) (fun _ h9 => h9) rfl dX4_fact_48 ?_
          refine lv_aload_n hx hb dX4_fact_51 rfl (lv_at hl 0 rfl) ?_
          refine va_get (D := (dC, dI)) (ci := 4) (v := .int (nI (mx_m F))) (C := RX4) (T := TX4) (N := 15) hx hb hts (fun w h => woX4_fact w (inX4 w h)) hown hK hP 0 rfl rfl 5 (by decide) (hts _ (woX4_fact _ wd_498)) (fun _ h9 => h9) rfl dX4_fact_52 ?_
          refine lv_iload_n hx hb dX4_fact_55 rfl (lv_at hl 1 rfl) ?_
          refine va_iast hx hb hK hP hD hS 1 0 rfl rfl (vp_in_nI (by omega) (by omega)) dX4_fact_56 (fun H locs hP hD hS => ?_)
          rw [show (nI (mx_m F)).toNatClampNeg = (mx_m F) from nI_clamp (by omega)] at hP hD
          have hP : va_P (dC, dI) vwCl [(mA 0, .inr (4, [.int 0, .ref (mA 1), .ref (mA 2), .ref (mA 3), .int (nI (mx_n T)), .int (nI (mx_m F)), .ref (mA 4), .ref (mA 5), .ref (mA 6), .ref (mA 7), .ref (mA 8), .ref (mA 9), .int jo, .ref (mA 10), .ref (mA 11)])), (mA 6, .inl (cI, 40, .inl (upd on (mx_m F) (nI x)))), (mA 7, .inl (cI, 40, .inl tw)), (mA 8, .inl (cZ, 40, .inl sa))] H := hP
          have hD : va_D A [(mA 0, .inr (4, [.int 0, .ref (mA 1), .ref (mA 2), .ref (mA 3), .int (nI (mx_n T)), .int (nI (mx_m F)), .ref (mA 4), .ref (mA 5), .ref (mA 6), .ref (mA 7), .ref (mA 8), .ref (mA 9), .int jo, .ref (mA 10), .ref (mA 11)])), (mA 6, .inl (cI, 40, .inl (upd on (mx_m F) (nI x)))), (mA 7, .inl (cI, 40, .inl tw)), (mA 8, .inl (cZ, 40, .inl sa))] := hD
          refine lv_aload_n hx hb dX4_fact_57 rfl (lv_at hl 0 rfl) ?_
          refine va_get (D := (dC, dI)) (ci := 4) (v := .ref (mA 7)) (C := RX4) (T := TX4) (N := 15) hx hb hts (fun w h => woX4_fact w (inX4 w h)) hown hK hP 0 rfl rfl 9 (by decide) (hts _ (woX4_fact _ wd_502)) (fun _ h9 => h9) rfl dX4_fact_58 ?_
          refine lv_aload_n hx hb dX4_fact_61 rfl (lv_at hl 0 rfl) ?_
          refine va_get (D := (dC, dI)) (ci := 4) (v := .int (nI (mx_m F))) (C := RX4) (T := TX4) (N := 15) hx hb hts (fun w h => woX4_fact w (inX4 w h)) hown hK hP 0 rfl rfl 5 (by decide) (hts _ (woX4_fact _ wd_498)) (fun _ h9 => h9) rfl dX4_fact_62 ?_
          refine lv_iload_n hx hb dX4_fact_65 rfl (lv_at hl 2 rfl) ?_
          refine va_iast hx hb hK hP hD hS 2 0 rfl rfl (vp_in_nI (by omega) (by omega)) dX4_fact_66 (fun H locs hP hD hS => ?_)
          rw [show (nI (mx_m F)).toNatClampNeg = (mx_m F) from nI_clamp (by omega)] at hP hD
          have hP : va_P (dC, dI) vwCl [(mA 0, .inr (4, [.int 0, .ref (mA 1), .ref (mA 2), .ref (mA 3), .int (nI (mx_n T)), .int (nI (mx_m F)), .ref (mA 4), .ref (mA 5), .ref (mA 6), .ref (mA 7), .ref (mA 8), .ref (mA 9), .int jo, .ref (mA 10), .ref (mA 11)])), (mA 6, .inl (cI, 40, .inl (upd on (mx_m F) (nI x)))), (mA 7, .inl (cI, 40, .inl (upd tw (mx_m F) (nI y)))), (mA 8, .inl (cZ, 40, .inl sa))] H := hP
          have hD : va_D A [(mA 0, .inr (4, [.int 0, .ref (mA 1), .ref (mA 2), .ref (mA 3), .int (nI (mx_n T)), .int (nI (mx_m F)), .ref (mA 4), .ref (mA 5), .ref (mA 6), .ref (mA 7), .ref (mA 8), .ref (mA 9), .int jo, .ref (mA 10), .ref (mA 11)])), (mA 6, .inl (cI, 40, .inl (upd on (mx_m F) (nI x)))), (mA 7, .inl (cI, 40, .inl (upd tw (mx_m F) (nI y)))), (mA 8, .inl (cZ, 40, .inl sa))] := hD
          refine lv_aload_n hx hb dX4_fact_67 rfl (lv_at hl 0 rfl) ?_
          refine va_get (D := (dC, dI)) (ci := 4) (v := .ref (mA 8)) (C := RX4) (T := TX4) (N := 15) hx hb hts (fun w h => woX4_fact w (inX4 w h)) hown hK hP 0 rfl rfl 10 (by decide) (hts _ (woX4_fact _ wd_503)) (fun _ h9 => h9) rfl dX4_fact_68 ?_
          refine lv_aload_n hx hb dX4_fact_71 rfl (lv_at hl 0 rfl) ?_
          refine va_get (D := (dC, dI)) (ci := 4) (v := .int (nI (mx_m F))) (C := RX4) (T := TX4) (N := 15) hx hb hts (fun w h => woX4_fact w (inX4 w h)) hown hK hP 0 rfl rfl 5 (by decide) (hts _ (woX4_fact _ wd_498)) (fun _ h9 => h9) rfl dX4_fact_72 ?_
          refine lv_iload_n hx hb dX4_fact_75 rfl (lv_at hl 3 rfl) ?_
          refine va_zast hx hb hK hP hD hS 3 2 rfl rfl (vp_in_nI (by omega) (by omega)) dX4_fact_76 (fun H locs hP hD hS => ?_)
          rw [show (nI (mx_m F)).toNatClampNeg = (mx_m F) from nI_clamp (by omega)] at hP hD
          rw [show vp_nar .boolean sm = sm from (by rcases hsm with rfl | rfl <;> decide)] at hP hD
          have hP : va_P (dC, dI) vwCl [(mA 0, .inr (4, [.int 0, .ref (mA 1), .ref (mA 2), .ref (mA 3), .int (nI (mx_n T)), .int (nI (mx_m F)), .ref (mA 4), .ref (mA 5), .ref (mA 6), .ref (mA 7), .ref (mA 8), .ref (mA 9), .int jo, .ref (mA 10), .ref (mA 11)])), (mA 6, .inl (cI, 40, .inl (upd on (mx_m F) (nI x)))), (mA 7, .inl (cI, 40, .inl (upd tw (mx_m F) (nI y)))), (mA 8, .inl (cZ, 40, .inl (upd sa (mx_m F) sm)))] H := hP
          have hD : va_D A [(mA 0, .inr (4, [.int 0, .ref (mA 1), .ref (mA 2), .ref (mA 3), .int (nI (mx_n T)), .int (nI (mx_m F)), .ref (mA 4), .ref (mA 5), .ref (mA 6), .ref (mA 7), .ref (mA 8), .ref (mA 9), .int jo, .ref (mA 10), .ref (mA 11)])), (mA 6, .inl (cI, 40, .inl (upd on (mx_m F) (nI x)))), (mA 7, .inl (cI, 40, .inl (upd tw (mx_m F) (nI y)))), (mA 8, .inl (cZ, 40, .inl (upd sa (mx_m F) sm)))] := hD
          refine lv_aload_n hx hb dX4_fact_77 rfl (lv_at hl 0 rfl) ?_
          refine lv_dup hx hb dX4_fact_78 rfl ?_
          refine va_get (D := (dC, dI)) (ci := 4) (v := .int (nI (mx_m F))) (C := RX4) (T := TX4) (N := 15) hx hb hts (fun w h => woX4_fact w (inX4 w h)) hown hK hP 0 rfl rfl 5 (by decide) (hts _ (woX4_fact _ wd_498)) (fun _ h9 => h9) rfl dX4_fact_79 ?_
          refine lv_iconst (v := 1) hx hb dX4_fact_82 (by decide) ?_
          refine lv_iadd hx hb dX4_fact_83 ?_
          refine lv_topi (fun f_1 ef_1 => ?_)
          refine va_put (D := (dC, dI)) (ci := 4) (v := .int f_1) (ty := .int) (C := RX4) (T := TX4) (N := 15) hx hb hts (fun w h => woX4_fact w (inX4 w h)) tyX4 tyX4_ok nmX4 hown hK hP hD hS 0 rfl rfl 5 (by decide) (hts _ (woX4_fact _ wd_498)) (fun _ h9 => h9) rfl (by decide +kernel) rfl rfl (Nat.le_of_ble_eq_true rfl) dX4_fact_84 (fun H locs hP hD hS => ?_)
          have hP : va_P (dC, dI) vwCl [(mA 0, .inr (4, [.int 0, .ref (mA 1), .ref (mA 2), .ref (mA 3), .int (nI (mx_n T)), .int f_1, .ref (mA 4), .ref (mA 5), .ref (mA 6), .ref (mA 7), .ref (mA 8), .ref (mA 9), .int jo, .ref (mA 10), .ref (mA 11)])), (mA 6, .inl (cI, 40, .inl (upd on (mx_m F) (nI x)))), (mA 7, .inl (cI, 40, .inl (upd tw (mx_m F) (nI y)))), (mA 8, .inl (cZ, 40, .inl (upd sa (mx_m F) sm)))] H := hP
          have hD : va_D A [(mA 0, .inr (4, [.int 0, .ref (mA 1), .ref (mA 2), .ref (mA 3), .int (nI (mx_n T)), .int f_1, .ref (mA 4), .ref (mA 5), .ref (mA 6), .ref (mA 7), .ref (mA 8), .ref (mA 9), .int jo, .ref (mA 10), .ref (mA 11)])), (mA 6, .inl (cI, 40, .inl (upd on (mx_m F) (nI x)))), (mA 7, .inl (cI, 40, .inl (upd tw (mx_m F) (nI y)))), (mA 8, .inl (cZ, 40, .inl (upd sa (mx_m F) sm)))] := hD
          refine lv_aload_n hx hb dX4_fact_87 rfl (lv_at hl 0 rfl) ?_
          refine va_get (D := (dC, dI)) (ci := 4) (v := .int f_1) (C := RX4) (T := TX4) (N := 15) hx hb hts (fun w h => woX4_fact w (inX4 w h)) hown hK hP 0 rfl rfl 5 (by decide) (hts _ (woX4_fact _ wd_498)) (fun _ h9 => h9) rfl dX4_fact_88 ?_
          refine lv_iconst (v := 1) hx hb dX4_fact_91 (by decide) ?_
          refine lv_isub hx hb dX4_fact_92 ?_
          rw [ef_1, nI_1] at hP hD
          rw [ef_1, nI_1, nI_pred]
          have hP9 := hP.sub (ws' := [(mA 0, .inr (4, [.int 0, .ref (mA 1), .ref (mA 2), .ref (mA 3), .int (nI (mx_n T)), .int (nI (mx_m (mf_add F x y (decide (sm = 1))))), .ref (mA 4), .ref (mA 5), .ref (mA 6), .ref (mA 7), .ref (mA 8), .ref (mA 9), .int jo, .ref (mA 10), .ref (mA 11)])), (mA 6, .inl (cI, 40, .inl (upd on (mx_m F) (nI x)))), (mA 7, .inl (cI, 40, .inl (upd tw (mx_m F) (nI y)))), (mA 8, .inl (cZ, 40, .inl (upd sa (mx_m F) sm)))]) [0, 1, 2, 3] rfl
          have hD9 := hD.sub (ws' := [(mA 0, .inr (4, [.int 0, .ref (mA 1), .ref (mA 2), .ref (mA 3), .int (nI (mx_n T)), .int (nI (mx_m (mf_add F x y (decide (sm = 1))))), .ref (mA 4), .ref (mA 5), .ref (mA 6), .ref (mA 7), .ref (mA 8), .ref (mA 9), .int jo, .ref (mA 10), .ref (mA 11)])), (mA 6, .inl (cI, 40, .inl (upd on (mx_m F) (nI x)))), (mA 7, .inl (cI, 40, .inl (upd tw (mx_m F) (nI y)))), (mA 8, .inl (cZ, 40, .inl (upd sa (mx_m F) sm)))]) [0, 1, 2, 3] (by decide) rfl
          exact W.iret (v := nI (mx_m F)) hx hb hr (fun t9 ht9 hW9 => ⟨⟨nI (mx_m F), (mf_add F x y (decide (sm = 1)), 0, upd on (mx_m F) (nI x), upd tw (mx_m F) (nI y), upd sa (mx_m F) sm), rfl, ⟨Or.inl ⟨x, y, hx0, hy0, rfl, rfl, Or.inr ⟨rfl, hlt, rfl, rfl⟩⟩, fk_add hmf hx0 hy0 hlt (by rcases hsm with rfl | rfl <;> rfl)⟩, by rw [ht9]; exact hP9, va_K.moved hW9.alike hK, hD9⟩, hS.F ht9⟩) hS.2.2 dX4_fact_93
        · exact absurd (by decide) c9
      · have hge : ¬ mx_m F < 40 := by have := (nI_eq (a := mx_m F) (b := 40) (by omega) (by omega)).mp c8; omega
        refine lv_iconst (v := 2) hx hb dX4_fact_30 (by decide) ?_
        refine lv_goto (tgt := 35) hx hb dX4_fact_31 (by decide) ?_
        refine va_put (D := (dC, dI)) (ci := 4) (v := .int 2) (ty := .int) (C := RX4) (T := TX4) (N := 15) hx hb hts (fun w h => woX4_fact w (inX4 w h)) tyX4 tyX4_ok nmX4 hown hK hP hD hS 0 rfl rfl 0 (by decide) (hts _ (woX4_fact _ wd_493)) (fun _ h9 => h9) rfl (by decide +kernel) rfl rfl (Nat.le_of_ble_eq_true rfl) dX4_fact_35 (fun H locs hP hD hS => ?_)
        have hP : va_P (dC, dI) vwCl [(mA 0, .inr (4, [.int 2, .ref (mA 1), .ref (mA 2), .ref (mA 3), .int (nI (mx_n T)), .int (nI (mx_m F)), .ref (mA 4), .ref (mA 5), .ref (mA 6), .ref (mA 7), .ref (mA 8), .ref (mA 9), .int jo, .ref (mA 10), .ref (mA 11)])), (mA 6, .inl (cI, 40, .inl on)), (mA 7, .inl (cI, 40, .inl tw)), (mA 8, .inl (cZ, 40, .inl sa))] H := hP
        have hD : va_D A [(mA 0, .inr (4, [.int 2, .ref (mA 1), .ref (mA 2), .ref (mA 3), .int (nI (mx_n T)), .int (nI (mx_m F)), .ref (mA 4), .ref (mA 5), .ref (mA 6), .ref (mA 7), .ref (mA 8), .ref (mA 9), .int jo, .ref (mA 10), .ref (mA 11)])), (mA 6, .inl (cI, 40, .inl on)), (mA 7, .inl (cI, 40, .inl tw)), (mA 8, .inl (cZ, 40, .inl sa))] := hD
        refine lv_aload_n hx hb dX4_fact_38 rfl (lv_at hl 0 rfl) ?_
        refine va_get (D := (dC, dI)) (ci := 4) (v := .int 2) (C := RX4) (T := TX4) (N := 15) hx hb hts (fun w h => woX4_fact w (inX4 w h)) hown hK hP 0 rfl rfl 0 (by decide) (hts _ (woX4_fact _ wd_493)) (fun _ h9 => h9) rfl dX4_fact_39 ?_
        refine lv_if_le (tgt := 47) hx hb dX4_fact_42 (by decide) (fun c9 => ?_) (fun c9 => ?_)
        · exact absurd c9 (by decide)
        · refine lv_iconst (v := 0) hx hb dX4_fact_45 (by decide) ?_
          have hP9 := hP.sub (ws' := [(mA 0, .inr (4, [.int 2, .ref (mA 1), .ref (mA 2), .ref (mA 3), .int (nI (mx_n T)), .int (nI (mx_m F)), .ref (mA 4), .ref (mA 5), .ref (mA 6), .ref (mA 7), .ref (mA 8), .ref (mA 9), .int jo, .ref (mA 10), .ref (mA 11)])), (mA 6, .inl (cI, 40, .inl on)), (mA 7, .inl (cI, 40, .inl tw)), (mA 8, .inl (cZ, 40, .inl sa))]) [0, 1, 2, 3] rfl
          have hD9 := hD.sub (ws' := [(mA 0, .inr (4, [.int 2, .ref (mA 1), .ref (mA 2), .ref (mA 3), .int (nI (mx_n T)), .int (nI (mx_m F)), .ref (mA 4), .ref (mA 5), .ref (mA 6), .ref (mA 7), .ref (mA 8), .ref (mA 9), .int jo, .ref (mA 10), .ref (mA 11)])), (mA 6, .inl (cI, 40, .inl on)), (mA 7, .inl (cI, 40, .inl tw)), (mA 8, .inl (cZ, 40, .inl sa))]) [0, 1, 2, 3] (by decide) rfl
          exact W.iret (v := 0) hx hb hr (fun t9 ht9 hW9 => ⟨⟨0, (F, 2, on, tw, sa), rfl, ⟨Or.inl ⟨x, y, hx0, hy0, rfl, rfl, Or.inl ⟨rfl, hge, rfl⟩⟩, hmf⟩, by rw [ht9]; exact hP9, va_K.moved hW9.alike hK, hD9⟩, hS.F ht9⟩) hS.2.2 dX4_fact_46
    · have hbad : ¬ (ix (mx_n T) a ∧ ix (mx_n T) b) := fun z => zb_f hr2 c2 z.2
      refine lv_iconst (v := 1) hx hb dX4_fact_17 (by decide) ?_
      refine lv_goto (tgt := 35) hx hb dX4_fact_18 (by decide) ?_
      refine va_put (D := (dC, dI)) (ci := 4) (v := .int 1) (ty := .int) (C := RX4) (T := TX4) (N := 15) hx hb hts (fun w h => woX4_fact w (inX4 w h)) tyX4 tyX4_ok nmX4 hown hK hP hD hS 0 rfl rfl 0 (by decide) (hts _ (woX4_fact _ wd_493)) (fun _ h9 => h9) rfl (by decide +kernel) rfl rfl (Nat.le_of_ble_eq_true rfl) dX4_fact_35 (fun H locs hP hD hS => ?_)
      have hP : va_P (dC, dI) vwCl [(mA 0, .inr (4, [.int 1, .ref (mA 1), .ref (mA 2), .ref (mA 3), .int (nI (mx_n T)), .int (nI (mx_m F)), .ref (mA 4), .ref (mA 5), .ref (mA 6), .ref (mA 7), .ref (mA 8), .ref (mA 9), .int jo, .ref (mA 10), .ref (mA 11)])), (mA 6, .inl (cI, 40, .inl on)), (mA 7, .inl (cI, 40, .inl tw)), (mA 8, .inl (cZ, 40, .inl sa))] H := hP
      have hD : va_D A [(mA 0, .inr (4, [.int 1, .ref (mA 1), .ref (mA 2), .ref (mA 3), .int (nI (mx_n T)), .int (nI (mx_m F)), .ref (mA 4), .ref (mA 5), .ref (mA 6), .ref (mA 7), .ref (mA 8), .ref (mA 9), .int jo, .ref (mA 10), .ref (mA 11)])), (mA 6, .inl (cI, 40, .inl on)), (mA 7, .inl (cI, 40, .inl tw)), (mA 8, .inl (cZ, 40, .inl sa))] := hD
      refine lv_aload_n hx hb dX4_fact_38 rfl (lv_at hl 0 rfl) ?_
      refine va_get (D := (dC, dI)) (ci := 4) (v := .int 1) (C := RX4) (T := TX4) (N := 15) hx hb hts (fun w h => woX4_fact w (inX4 w h)) hown hK hP 0 rfl rfl 0 (by decide) (hts _ (woX4_fact _ wd_493)) (fun _ h9 => h9) rfl dX4_fact_39 ?_
      refine lv_if_le (tgt := 47) hx hb dX4_fact_42 (by decide) (fun c9 => ?_) (fun c9 => ?_)
      · exact absurd c9 (by decide)
      · refine lv_iconst (v := 0) hx hb dX4_fact_45 (by decide) ?_
        have hP9 := hP.sub (ws' := [(mA 0, .inr (4, [.int 1, .ref (mA 1), .ref (mA 2), .ref (mA 3), .int (nI (mx_n T)), .int (nI (mx_m F)), .ref (mA 4), .ref (mA 5), .ref (mA 6), .ref (mA 7), .ref (mA 8), .ref (mA 9), .int jo, .ref (mA 10), .ref (mA 11)])), (mA 6, .inl (cI, 40, .inl on)), (mA 7, .inl (cI, 40, .inl tw)), (mA 8, .inl (cZ, 40, .inl sa))]) [0, 1, 2, 3] rfl
        have hD9 := hD.sub (ws' := [(mA 0, .inr (4, [.int 1, .ref (mA 1), .ref (mA 2), .ref (mA 3), .int (nI (mx_n T)), .int (nI (mx_m F)), .ref (mA 4), .ref (mA 5), .ref (mA 6), .ref (mA 7), .ref (mA 8), .ref (mA 9), .int jo, .ref (mA 10), .ref (mA 11)])), (mA 6, .inl (cI, 40, .inl on)), (mA 7, .inl (cI, 40, .inl tw)), (mA 8, .inl (cZ, 40, .inl sa))]) [0, 1, 2, 3] (by decide) rfl
        exact W.iret (v := 0) hx hb hr (fun t9 ht9 hW9 => ⟨⟨0, (F, 1, on, tw, sa), rfl, ⟨Or.inr ⟨hbad, rfl, rfl⟩, hmf⟩, by rw [ht9]; exact hP9, va_K.moved hW9.alike hK, hD9⟩, hS.F ht9⟩) hS.2.2 dX4_fact_46

def un_Q (T : mx_T) (F : mx_F) (on tw sa : Nat → Int32) (r : Int32) (F2 : mx_F) : Prop := ((r = 0 ∧ mx_m F = 0 ∧ F2 = F) ∨ (r = 1 ∧ 0 < mx_m F ∧ F2 = mf_un F)) ∧ fk_3 T F2 on tw sa

set_option maxHeartbeats 4000000 in
set_option maxRecDepth 100000 in
/-- the reference: undo -/
theorem m_undo (l : Launch) (dC : Nat → ClassId) (dI : Nat → Nat → Nat) (cI cJ cZ : ClassId) (T : mx_T) (F : mx_F) (mA : Nat → Nat) (th : Int32) (jo : Int32) (on : Nat → Int32) (tw : Nat → Int32) (sa : Nat → Int32) (sz : Nat) (hmf : fk_3 T F on tw sa) : Met l yX4_undo wsX4_undo ({ frames := 0, cells := 0, slots := 0, locals := 0 }) (va_Pc [.ref (mA 0)] (fun U => U.heap.size = sz ∧ va_P (dC, dI) vwCl [(mA 0, .inr (4, [.int th, .ref (mA 1), .ref (mA 2), .ref (mA 3), .int (nI (mx_n T)), .int (nI (mx_m F)), .ref (mA 4), .ref (mA 5), .ref (mA 6), .ref (mA 7), .ref (mA 8), .ref (mA 9), .int jo, .ref (mA 10), .ref (mA 11)])), (mA 6, .inl (cI, 40, .inl on)), (mA 7, .inl (cI, 40, .inl tw)), (mA 8, .inl (cZ, 40, .inl sa))] U.heap ∧ va_K (dC, dI) vwCl [(cI, .int), (cJ, .long), (cZ, .boolean)] U ∧ va_D (fun _ => True) [(mA 0, .inr (4, [.int th, .ref (mA 1), .ref (mA 2), .ref (mA 3), .int (nI (mx_n T)), .int (nI (mx_m F)), .ref (mA 4), .ref (mA 5), .ref (mA 6), .ref (mA 7), .ref (mA 8), .ref (mA 9), .int jo, .ref (mA 10), .ref (mA 11)])), (mA 6, .inl (cI, 40, .inl on)), (mA 7, .inl (cI, 40, .inl tw)), (mA 8, .inl (cZ, 40, .inl sa))])) (va_Qi (un_Q T F on tw sa) (fun (u : mx_F) t7 => match u with | F2 => va_P (dC, dI) vwCl [(mA 0, .inr (4, [.int 0, .ref (mA 1), .ref (mA 2), .ref (mA 3), .int (nI (mx_n T)), .int (nI (mx_m F2)), .ref (mA 4), .ref (mA 5), .ref (mA 6), .ref (mA 7), .ref (mA 8), .ref (mA 9), .int jo, .ref (mA 10), .ref (mA 11)])), (mA 6, .inl (cI, 40, .inl on)), (mA 7, .inl (cI, 40, .inl tw)), (mA 8, .inl (cZ, 40, .inl sa))] t7.heap ∧ va_K (dC, dI) vwCl [(cI, .int), (cJ, .long), (cZ, .boolean)] t7 ∧ va_D (va_A [(mA 0, .inr (4, [.int th, .ref (mA 1), .ref (mA 2), .ref (mA 3), .int (nI (mx_n T)), .int (nI (mx_m F)), .ref (mA 4), .ref (mA 5), .ref (mA 6), .ref (mA 7), .ref (mA 8), .ref (mA 9), .int jo, .ref (mA 10), .ref (mA 11)])), (mA 6, .inl (cI, 40, .inl on)), (mA 7, .inl (cI, 40, .inl tw)), (mA 8, .inl (cZ, 40, .inl sa))] sz) [(mA 0, .inr (4, [.int 0, .ref (mA 1), .ref (mA 2), .ref (mA 3), .int (nI (mx_n T)), .int (nI (mx_m F2)), .ref (mA 4), .ref (mA 5), .ref (mA 6), .ref (mA 7), .ref (mA 8), .ref (mA 9), .int jo, .ref (mA 10), .ref (mA 11)])), (mA 6, .inl (cI, 40, .inl on)), (mA 7, .inl (cI, 40, .inl tw)), (mA 8, .inl (cZ, 40, .inl sa))]) (va_A [(mA 0, .inr (4, [.int th, .ref (mA 1), .ref (mA 2), .ref (mA 3), .int (nI (mx_n T)), .int (nI (mx_m F)), .ref (mA 4), .ref (mA 5), .ref (mA 6), .ref (mA 7), .ref (mA 8), .ref (mA 9), .int jo, .ref (mA 10), .ref (mA 11)])), (mA 6, .inl (cI, 40, .inl on)), (mA 7, .inl (cI, 40, .inl tw)), (mA 8, .inl (cZ, 40, .inl sa))] sz)) 0 0 (va_A [(mA 0, .inr (4, [.int th, .ref (mA 1), .ref (mA 2), .ref (mA 3), .int (nI (mx_n T)), .int (nI (mx_m F)), .ref (mA 4), .ref (mA 5), .ref (mA 6), .ref (mA 7), .ref (mA 8), .ref (mA 9), .int jo, .ref (mA 10), .ref (mA 11)])), (mA 6, .inl (cI, 40, .inl on)), (mA 7, .inl (cI, 40, .inl tw)), (mA 8, .inl (cZ, 40, .inl sa))] sz) := by
  refine Met.ofW (cc := cX4_undo) (maxL := 1) (ret := (some .boolean)) (by decide) rfl ?_
  intro p e s m args below meth c s₁ B hml hv
  obtain ⟨rfl, hsz, hP, hK, hD0⟩ := hv
  have hx := B.exec
  have hb := B.bytes
  have hr := B.returns
  have hts := atoms_spec (ws := wsX4_undo) B.pre
  have hown : s.vm.findClass RX4 = some m.cls := findClass_of_methodNamed B.named
  have hlocks := B.notSynchronized
  subst hsz
  have hD := hD0.self (sz := s.heap.size)
  generalize hAe : va_A [(mA 0, .inr (4, [.int th, .ref (mA 1), .ref (mA 2), .ref (mA 3), .int (nI (mx_n T)), .int (nI (mx_m F)), .ref (mA 4), .ref (mA 5), .ref (mA 6), .ref (mA 7), .ref (mA 8), .ref (mA 9), .int jo, .ref (mA 10), .ref (mA 11)])), (mA 6, .inl (cI, 40, .inl on)), (mA 7, .inl (cI, 40, .inl tw)), (mA 8, .inl (cZ, 40, .inl sa))] s.heap.size = A at hD ⊢
  have hA : ∀ q : Nat, s.heap.size ≤ q → A q := fun q h => by rw [← hAe]; exact Or.inr h
  have hS : va_S A s.heap s.heap [] := va_S.rf
  have hP : va_P (dC, dI) vwCl [(mA 0, .inr (4, [.int th, .ref (mA 1), .ref (mA 2), .ref (mA 3), .int (nI (mx_n T)), .int (nI (mx_m F)), .ref (mA 4), .ref (mA 5), .ref (mA 6), .ref (mA 7), .ref (mA 8), .ref (mA 9), .int jo, .ref (mA 10), .ref (mA 11)])), (mA 6, .inl (cI, 40, .inl on)), (mA 7, .inl (cI, 40, .inl tw)), (mA 8, .inl (cZ, 40, .inl sa))] s.heap := hP
  have hl := lv_entry ([.ref (mA 0)]) (n := 1) (Nat.le_of_ble_eq_true rfl)
  rw [lg_entry_eq]
  generalize (lg_sl ([.ref (mA 0)]) ++ List.replicate (1 - (lg_sl ([.ref (mA 0)])).length) Slot.unset).toArray = ls at hl ⊢
  have hl : lv_has ls 1 [(0, .ref (mA 0))] := hl
  have hm := hmf.1
  refine lv_aload_n hx hb dX4_undo_0 rfl (lv_at hl 0 rfl) ?_
  refine lv_iconst (v := 0) hx hb dX4_undo_1 (by decide) ?_
  refine va_put (D := (dC, dI)) (ci := 4) (v := .int 0) (ty := .int) (C := RX4) (T := TX4) (N := 15) hx hb hts (fun w h => woX4_undo w (inX4 w h)) tyX4 tyX4_ok nmX4 hown hK hP hD hS 0 rfl rfl 0 (by decide) (hts _ (woX4_undo _ wd_493)) (fun _ h9 => h9) rfl (by decide +kernel) rfl rfl (Nat.le_of_ble_eq_true rfl) dX4_undo_2 (fun H locs hP hD hS => ?_)
  have hP : va_P (dC, dI) vwCl [(mA 0, .inr (4, [.int 0, .ref (mA 1), .ref (mA 2), .ref (mA 3), .int (nI (mx_n T)), .int (nI (mx_m F)), .ref (mA 4), .ref (mA 5), .ref (mA 6), .ref (mA 7), .ref (mA 8), .ref (mA 9), .int jo, .ref (mA 10), .ref (mA 11)])), (mA 6, .inl (cI, 40, .inl on)), (mA 7, .inl (cI, 40, .inl tw)), (mA 8, .inl (cZ, 40, .inl sa))] H := hP
  have hD : va_D A [(mA 0, .inr (4, [.int 0, .ref (mA 1), .ref (mA 2), .ref (mA 3), .int (nI (mx_n T)), .int (nI (mx_m F)), .ref (mA 4), .ref (mA 5), .ref (mA 6), .ref (mA 7), .ref (mA 8), .ref (mA 9), .int jo, .ref (mA 10), .ref (mA 11)])), (mA 6, .inl (cI, 40, .inl on)), (mA 7, .inl (cI, 40, .inl tw)), (mA 8, .inl (cZ, 40, .inl sa))] := hD
  refine lv_aload_n hx hb dX4_undo_5 rfl (lv_at hl 0 rfl) ?_
  refine va_get (D := (dC, dI)) (ci := 4) (v := .int (nI (mx_m F))) (C := RX4) (T := TX4) (N := 15) hx hb hts (fun w h => woX4_undo w (inX4 w h)) hown hK hP 0 rfl rfl 5 (by decide) (hts _ (woX4_undo _ wd_498)) (fun _ h9 => h9) rfl dX4_undo_6 ?_
  refine lv_if_ne (tgt := 14) hx hb dX4_undo_9 (by decide) (fun c1 => ?_) (fun c1 => ?_)
  · have h0 : 0 < mx_m F := Nat.pos_of_ne_zero (fun q => c1 (by rw [q]; rfl))
    refine lv_aload_n hx hb dX4_undo_14 rfl (lv_at hl 0 rfl) ?_
    refine lv_dup hx hb dX4_undo_15 rfl ?_
    refine va_get (D := (dC, dI)) (ci := 4) (v := .int (nI (mx_m F))) (C := RX4) (T := TX4) (N := 15) hx hb hts (fun w h => woX4_undo w (inX4 w h)) hown hK hP 0 rfl rfl 5 (by decide) (hts _ (woX4_undo _ wd_498)) (fun _ h9 => h9) rfl dX4_undo_16 ?_
    refine lv_iconst (v := 1) hx hb dX4_undo_19 (by decide) ?_
    refine lv_isub hx hb dX4_undo_20 ?_
    refine lv_topi (fun f_1 ef_1 => ?_)
    refine va_put (D := (dC, dI)) (ci := 4) (v := .int f_1) (ty := .int) (C := RX4) (T := TX4) (N := 15) hx hb hts (fun w h => woX4_undo w (inX4 w h)) tyX4 tyX4_ok nmX4 hown hK hP hD hS 0 rfl rfl 5 (by decide) (hts _ (woX4_undo _ wd_498)) (fun _ h9 => h9) rfl (by decide +kernel) rfl rfl (Nat.le_of_ble_eq_true rfl) dX4_undo_21 (fun H locs hP hD hS => ?_)
    have hP : va_P (dC, dI) vwCl [(mA 0, .inr (4, [.int 0, .ref (mA 1), .ref (mA 2), .ref (mA 3), .int (nI (mx_n T)), .int f_1, .ref (mA 4), .ref (mA 5), .ref (mA 6), .ref (mA 7), .ref (mA 8), .ref (mA 9), .int jo, .ref (mA 10), .ref (mA 11)])), (mA 6, .inl (cI, 40, .inl on)), (mA 7, .inl (cI, 40, .inl tw)), (mA 8, .inl (cZ, 40, .inl sa))] H := hP
    have hD : va_D A [(mA 0, .inr (4, [.int 0, .ref (mA 1), .ref (mA 2), .ref (mA 3), .int (nI (mx_n T)), .int f_1, .ref (mA 4), .ref (mA 5), .ref (mA 6), .ref (mA 7), .ref (mA 8), .ref (mA 9), .int jo, .ref (mA 10), .ref (mA 11)])), (mA 6, .inl (cI, 40, .inl on)), (mA 7, .inl (cI, 40, .inl tw)), (mA 8, .inl (cZ, 40, .inl sa))] := hD
    refine lv_iconst (v := 1) hx hb dX4_undo_24 (by decide) ?_
    have ecv : f_1 = nI (mx_m (mf_un F)) := by rw [ef_1]; show nI (mx_m F) - 1 = nI (mx_m F - 1); obtain ⟨k, hk⟩ : ∃ k, mx_m F = k + 1 := ⟨mx_m F - 1, by omega⟩; rw [hk]; exact nI_pred k
    rw [ecv] at hP hD
    have hP9 := hP.sub (ws' := [(mA 0, .inr (4, [.int 0, .ref (mA 1), .ref (mA 2), .ref (mA 3), .int (nI (mx_n T)), .int (nI (mx_m (mf_un F))), .ref (mA 4), .ref (mA 5), .ref (mA 6), .ref (mA 7), .ref (mA 8), .ref (mA 9), .int jo, .ref (mA 10), .ref (mA 11)])), (mA 6, .inl (cI, 40, .inl on)), (mA 7, .inl (cI, 40, .inl tw)), (mA 8, .inl (cZ, 40, .inl sa))]) [0, 1, 2, 3] rfl
    have hD9 := hD.sub (ws' := [(mA 0, .inr (4, [.int 0, .ref (mA 1), .ref (mA 2), .ref (mA 3), .int (nI (mx_n T)), .int (nI (mx_m (mf_un F))), .ref (mA 4), .ref (mA 5), .ref (mA 6), .ref (mA 7), .ref (mA 8), .ref (mA 9), .int jo, .ref (mA 10), .ref (mA 11)])), (mA 6, .inl (cI, 40, .inl on)), (mA 7, .inl (cI, 40, .inl tw)), (mA 8, .inl (cZ, 40, .inl sa))]) [0, 1, 2, 3] (by decide) rfl
    exact W.zret (v := 1) hx hb hr rfl (fun t9 ht9 hW9 => ⟨⟨1, mf_un F, rfl, ⟨Or.inr ⟨rfl, h0, rfl⟩, fk_un hmf⟩, by rw [ht9]; exact hP9, va_K.moved hW9.alike hK, hD9⟩, hS.F ht9⟩) hS.2.2 dX4_undo_25
  · have h0 : mx_m F = 0 := (nI_eq (a := mx_m F) (b := 0) (by omega) (by omega)).mp c1
    refine lv_iconst (v := 0) hx hb dX4_undo_12 (by decide) ?_
    have hP9 := hP.sub (ws' := [(mA 0, .inr (4, [.int 0, .ref (mA 1), .ref (mA 2), .ref (mA 3), .int (nI (mx_n T)), .int (nI (mx_m F)), .ref (mA 4), .ref (mA 5), .ref (mA 6), .ref (mA 7), .ref (mA 8), .ref (mA 9), .int jo, .ref (mA 10), .ref (mA 11)])), (mA 6, .inl (cI, 40, .inl on)), (mA 7, .inl (cI, 40, .inl tw)), (mA 8, .inl (cZ, 40, .inl sa))]) [0, 1, 2, 3] rfl
    have hD9 := hD.sub (ws' := [(mA 0, .inr (4, [.int 0, .ref (mA 1), .ref (mA 2), .ref (mA 3), .int (nI (mx_n T)), .int (nI (mx_m F)), .ref (mA 4), .ref (mA 5), .ref (mA 6), .ref (mA 7), .ref (mA 8), .ref (mA 9), .int jo, .ref (mA 10), .ref (mA 11)])), (mA 6, .inl (cI, 40, .inl on)), (mA 7, .inl (cI, 40, .inl tw)), (mA 8, .inl (cZ, 40, .inl sa))]) [0, 1, 2, 3] (by decide) rfl
    exact W.zret (v := 0) hx hb hr rfl (fun t9 ht9 hW9 => ⟨⟨0, F, rfl, ⟨Or.inl ⟨rfl, h0, rfl⟩, hmf⟩, by rw [ht9]; exact hP9, va_K.moved hW9.alike hK, hD9⟩, hS.F ht9⟩) hS.2.2 dX4_undo_13

set_option maxHeartbeats 4000000 in
set_option maxRecDepth 100000 in
theorem sd_1 {p : Program} {l : Launch} {e : Env} {s : State} {m : MethodId} {args : Array Value} {below : List Frame} {meth : Method} {c : Code} {Q : State → Prop} (hx : p.tables.exec = Jvm.exec) (hb : c.code = cX4_standing) (hown : s.vm.findClass RX4 = some m.cls) (hts : ∀ w ∈ wsX4_standing, w.before args s = true) {dC : Nat → ClassId} {dI : Nat → Nat → Nat} {cI cJ cZ : ClassId} (hK : va_K (dC, dI) vwCl [(cI, .int), (cJ, .long), (cZ, .boolean)] s) {T : mx_T} {F : mx_F} {mA : Nat → Nat} {th : Int32} {jo : Int32} {isb : Nat → Int32} {pls : Nat → Int32} {msg : Nat → Int32} {at_ : Nat → Int32} {t : Nat} (hw : mx_wf T) (hpf : mx_pf T) (hn : mx_n T ≤ 60) (hmt : md_T T isb pls msg at_) (ht : t < mx_n T) {A : Nat → Prop} {H0 : Heap} (hA : ∀ q : Nat, H0.size ≤ q → A q) (hml : c.maxLocals = 5) (kk : ∀ (sd : Nat → Int32) (H : Heap) (locs : List Loc) (ls : Array Slot), (∀ u, u < 60 → sd u = if u = t then 1 else 0) → va_P (dC, dI) vwCl [(mA 0, .inr (4, [.int th, .ref (mA 1), .ref (mA 2), .ref (mA 3), .int (nI (mx_n T)), .int (nI (mx_m F)), .ref (mA 4), .ref (mA 5), .ref (mA 6), .ref (mA 7), .ref (mA 8), .ref (mA 9), .int jo, .ref (mA 10), .ref (mA 11)])), (mA 3, .inl (cI, 16, .inl pls)), (mA 4, .inl (cI, 60, .inl msg)), (mA 5, .inl (cI, 180, .inl at_)), (mA 11, .inl (cZ, 60, .inl sd))] H → va_D A [(mA 0, .inr (4, [.int th, .ref (mA 1), .ref (mA 2), .ref (mA 3), .int (nI (mx_n T)), .int (nI (mx_m F)), .ref (mA 4), .ref (mA 5), .ref (mA 6), .ref (mA 7), .ref (mA 8), .ref (mA 9), .int jo, .ref (mA 10), .ref (mA 11)])), (mA 3, .inl (cI, 16, .inl pls)), (mA 4, .inl (cI, 60, .inl msg)), (mA 5, .inl (cI, 180, .inl at_)), (mA 11, .inl (cZ, 60, .inl sd))] → va_S A H0 H locs → lv_has ls 5 [(0, .ref (mA 0)), (1, .int (nI t)), (2, .int 0)] → W p l e ({ frames := 0, cells := 0, slots := 0, locals := 0 }) s m args below meth c H locs 0 0 Q (F0 m 32 ls [])) : ∀ (d : Nat) (k : Nat) (sd : Nat → Int32) (H : Heap) (locs : List Loc) (ls : Array Slot), (k + d = 60) → (∀ u, u < k → sd u = if u = t then 1 else 0) → va_P (dC, dI) vwCl [(mA 0, .inr (4, [.int th, .ref (mA 1), .ref (mA 2), .ref (mA 3), .int (nI (mx_n T)), .int (nI (mx_m F)), .ref (mA 4), .ref (mA 5), .ref (mA 6), .ref (mA 7), .ref (mA 8), .ref (mA 9), .int jo, .ref (mA 10), .ref (mA 11)])), (mA 3, .inl (cI, 16, .inl pls)), (mA 4, .inl (cI, 60, .inl msg)), (mA 5, .inl (cI, 180, .inl at_)), (mA 11, .inl (cZ, 60, .inl sd))] H → va_D A [(mA 0, .inr (4, [.int th, .ref (mA 1), .ref (mA 2), .ref (mA 3), .int (nI (mx_n T)), .int (nI (mx_m F)), .ref (mA 4), .ref (mA 5), .ref (mA 6), .ref (mA 7), .ref (mA 8), .ref (mA 9), .int jo, .ref (mA 10), .ref (mA 11)])), (mA 3, .inl (cI, 16, .inl pls)), (mA 4, .inl (cI, 60, .inl msg)), (mA 5, .inl (cI, 180, .inl at_)), (mA 11, .inl (cZ, 60, .inl sd))] → va_S A H0 H locs → lv_has ls 5 [(0, .ref (mA 0)), (1, .int (nI t)), (2, .int 0), (3, .int (nI k))] → W p l e ({ frames := 0, cells := 0, slots := 0, locals := 0 }) s m args below meth c H locs 0 0 Q (F0 m 4 ls []) := by
  intro d
  induction d with
  | zero =>
    intro k sd H locs ls hd hI hP hD hS hl
    refine lv_iload_n hx hb dX4_standing_4 rfl (lv_at hl 3 rfl) ?_
    refine lv_bipush (v := 60) hx hb dX4_standing_5 (by decide) ?_
    refine lv_icmp_ge (tgt := 32) hx hb dX4_standing_7 (by decide) (fun c1 => ?_) (fun c1 => ?_)
    · have e : k = 60 := by omega
      rw [e] at hI
      refine kk sd _ _ _ hI hP hD hS (lv_sub hl [0, 1, 2] rfl)
    · exact absurd (nI_le (a := 60) (b := k) (by omega) (by omega)) c1
  | succ d ih =>
    intro k sd H locs ls hd hI hP hD hS hl
    have hk0 : k < 60 := by omega
    refine lv_iload_n hx hb dX4_standing_4 rfl (lv_at hl 3 rfl) ?_
    refine lv_bipush (v := 60) hx hb dX4_standing_5 (by decide) ?_
    refine lv_icmp_ge (tgt := 32) hx hb dX4_standing_7 (by decide) (fun c1 => ?_) (fun c1 => ?_)
    · exact absurd c1 (nI_ge (b := 60) hk0 (by omega))
    · refine lv_aload_n hx hb dX4_standing_10 rfl (lv_at hl 0 rfl) ?_
      refine va_get (D := (dC, dI)) (ci := 4) (v := .ref (mA 11)) (C := RX4) (T := TX4) (N := 15) hx hb hts (fun w h => woX4_standing w (inX4 w h)) hown hK hP 0 rfl rfl 14 (by decide) (hts _ (woX4_standing _ wd_507)) (fun _ h9 => h9) rfl dX4_standing_11 ?_
      refine lv_iload_n hx hb dX4_standing_14 rfl (lv_at hl 3 rfl) ?_
      refine lv_iload_n hx hb dX4_standing_15 rfl (lv_at hl 3 rfl) ?_
      refine lv_iload_n hx hb dX4_standing_16 rfl (lv_at hl 1 rfl) ?_
      refine lv_icmp_ne (tgt := 24) hx hb dX4_standing_17 (by decide) (fun c2 => ?_) (fun c2 => ?_)
      · refine lv_iconst (v := 0) hx hb dX4_standing_24 (by decide) ?_
        refine va_zast hx hb hK hP hD hS 4 2 rfl rfl (vp_in_nI (by omega) (by omega)) dX4_standing_25 (fun H locs hP hD hS => ?_)
        rw [show (nI k).toNatClampNeg = k from nI_clamp (by omega)] at hP hD
        rw [show vp_nar .boolean 0 = 0 from by decide] at hP hD
        have hP : va_P (dC, dI) vwCl [(mA 0, .inr (4, [.int th, .ref (mA 1), .ref (mA 2), .ref (mA 3), .int (nI (mx_n T)), .int (nI (mx_m F)), .ref (mA 4), .ref (mA 5), .ref (mA 6), .ref (mA 7), .ref (mA 8), .ref (mA 9), .int jo, .ref (mA 10), .ref (mA 11)])), (mA 3, .inl (cI, 16, .inl pls)), (mA 4, .inl (cI, 60, .inl msg)), (mA 5, .inl (cI, 180, .inl at_)), (mA 11, .inl (cZ, 60, .inl (upd sd k 0)))] H := hP
        have hD : va_D A [(mA 0, .inr (4, [.int th, .ref (mA 1), .ref (mA 2), .ref (mA 3), .int (nI (mx_n T)), .int (nI (mx_m F)), .ref (mA 4), .ref (mA 5), .ref (mA 6), .ref (mA 7), .ref (mA 8), .ref (mA 9), .int jo, .ref (mA 10), .ref (mA 11)])), (mA 3, .inl (cI, 16, .inl pls)), (mA 4, .inl (cI, 60, .inl msg)), (mA 5, .inl (cI, 180, .inl at_)), (mA 11, .inl (cZ, 60, .inl (upd sd k 0)))] := hD
        obtain ⟨y_1, ey_1⟩ : ∃ y9 : Int32, y9 = (nI k) + 1 := ⟨_, rfl⟩
        refine lv_iinc (v := y_1) (lv' := [(3, .int y_1), (0, .ref (mA 0)), (1, .int (nI t)), (2, .int 0)]) hx hb dX4_standing_26 hl (k := 3) rfl (by rw [ey_1]; rfl) (by decide) rfl (fun ls hl => ?_)
        refine lv_goto (tgt := 4) hx hb dX4_standing_29 (by decide) ?_
        rw [ey_1, nI_1] at hl
        refine ih (k + 1) (upd sd k 0) _ _ _ (by omega) (fun u hu => ?_) hP hD hS (lv_sub hl [1, 2, 3, 0] rfl)
        by_cases z : u = k
        · subst z; rw [pk_us, if_neg (fun z => c2 (by rw [z]))]
        · rw [pk_un z]; exact hI u (by omega)
      · refine lv_iconst (v := 1) hx hb dX4_standing_20 (by decide) ?_
        refine lv_goto (tgt := 25) hx hb dX4_standing_21 (by decide) ?_
        refine va_zast hx hb hK hP hD hS 4 2 rfl rfl (vp_in_nI (by omega) (by omega)) dX4_standing_25 (fun H locs hP hD hS => ?_)
        rw [show (nI k).toNatClampNeg = k from nI_clamp (by omega)] at hP hD
        rw [show vp_nar .boolean 1 = 1 from by decide] at hP hD
        have hP : va_P (dC, dI) vwCl [(mA 0, .inr (4, [.int th, .ref (mA 1), .ref (mA 2), .ref (mA 3), .int (nI (mx_n T)), .int (nI (mx_m F)), .ref (mA 4), .ref (mA 5), .ref (mA 6), .ref (mA 7), .ref (mA 8), .ref (mA 9), .int jo, .ref (mA 10), .ref (mA 11)])), (mA 3, .inl (cI, 16, .inl pls)), (mA 4, .inl (cI, 60, .inl msg)), (mA 5, .inl (cI, 180, .inl at_)), (mA 11, .inl (cZ, 60, .inl (upd sd k 1)))] H := hP
        have hD : va_D A [(mA 0, .inr (4, [.int th, .ref (mA 1), .ref (mA 2), .ref (mA 3), .int (nI (mx_n T)), .int (nI (mx_m F)), .ref (mA 4), .ref (mA 5), .ref (mA 6), .ref (mA 7), .ref (mA 8), .ref (mA 9), .int jo, .ref (mA 10), .ref (mA 11)])), (mA 3, .inl (cI, 16, .inl pls)), (mA 4, .inl (cI, 60, .inl msg)), (mA 5, .inl (cI, 180, .inl at_)), (mA 11, .inl (cZ, 60, .inl (upd sd k 1)))] := hD
        obtain ⟨y_2, ey_2⟩ : ∃ y9 : Int32, y9 = (nI k) + 1 := ⟨_, rfl⟩
        refine lv_iinc (v := y_2) (lv' := [(3, .int y_2), (0, .ref (mA 0)), (1, .int (nI t)), (2, .int 0)]) hx hb dX4_standing_26 hl (k := 3) rfl (by rw [ey_2]; rfl) (by decide) rfl (fun ls hl => ?_)
        refine lv_goto (tgt := 4) hx hb dX4_standing_29 (by decide) ?_
        rw [ey_2, nI_1] at hl
        refine ih (k + 1) (upd sd k 1) _ _ _ (by omega) (fun u hu => ?_) hP hD hS (lv_sub hl [1, 2, 3, 0] rfl)
        by_cases z : u = k
        · subst z; rw [pk_us, if_pos ((nI_eq (by omega) (by omega)).mp c2)]
        · rw [pk_un z]; exact hI u (by omega)

set_option maxHeartbeats 4000000 in
set_option maxRecDepth 100000 in
theorem sd_3 {p : Program} {l : Launch} {e : Env} {s : State} {m : MethodId} {args : Array Value} {below : List Frame} {meth : Method} {c : Code} {Q : State → Prop} (hx : p.tables.exec = Jvm.exec) (hb : c.code = cX4_standing) (hown : s.vm.findClass RX4 = some m.cls) (hts : ∀ w ∈ wsX4_standing, w.before args s = true) {dC : Nat → ClassId} {dI : Nat → Nat → Nat} {cI cJ cZ : ClassId} (hK : va_K (dC, dI) vwCl [(cI, .int), (cJ, .long), (cZ, .boolean)] s) {T : mx_T} {F : mx_F} {mA : Nat → Nat} {th : Int32} {jo : Int32} {isb : Nat → Int32} {pls : Nat → Int32} {msg : Nat → Int32} {at_ : Nat → Int32} {t : Nat} {k : Nat} {many : Int32} (hw : mx_wf T) (hpf : mx_pf T) (hn : mx_n T ≤ 60) (hmt : md_T T isb pls msg at_) (ht : t < mx_n T) (hk : k < mx_n T) {A : Nat → Prop} {H0 : Heap} (hA : ∀ q : Nat, H0.size ≤ q → A q) (hml : c.maxLocals = 5) (kk : ∀ (sd : Nat → Int32) (H : Heap) (locs : List Loc) (ls : Array Slot), (sd_I T t k sd many) → va_P (dC, dI) vwCl [(mA 0, .inr (4, [.int th, .ref (mA 1), .ref (mA 2), .ref (mA 3), .int (nI (mx_n T)), .int (nI (mx_m F)), .ref (mA 4), .ref (mA 5), .ref (mA 6), .ref (mA 7), .ref (mA 8), .ref (mA 9), .int jo, .ref (mA 10), .ref (mA 11)])), (mA 3, .inl (cI, 16, .inl pls)), (mA 4, .inl (cI, 60, .inl msg)), (mA 5, .inl (cI, 180, .inl at_)), (mA 11, .inl (cZ, 60, .inl sd))] H → va_D A [(mA 0, .inr (4, [.int th, .ref (mA 1), .ref (mA 2), .ref (mA 3), .int (nI (mx_n T)), .int (nI (mx_m F)), .ref (mA 4), .ref (mA 5), .ref (mA 6), .ref (mA 7), .ref (mA 8), .ref (mA 9), .int jo, .ref (mA 10), .ref (mA 11)])), (mA 3, .inl (cI, 16, .inl pls)), (mA 4, .inl (cI, 60, .inl msg)), (mA 5, .inl (cI, 180, .inl at_)), (mA 11, .inl (cZ, 60, .inl sd))] → va_S A H0 H locs → lv_has ls 5 [(0, .ref (mA 0)), (2, .int many), (3, .int (nI k))] → W p l e ({ frames := 0, cells := 0, slots := 0, locals := 0 }) s m args below meth c H locs 0 0 Q (F0 m 95 ls [])) : ∀ (d : Nat) (i : Nat) (sd : Nat → Int32) (H : Heap) (locs : List Loc) (ls : Array Slot), (i + d = mx_ar (mx_pl T) k) → (sd_J T t k i sd many) → va_P (dC, dI) vwCl [(mA 0, .inr (4, [.int th, .ref (mA 1), .ref (mA 2), .ref (mA 3), .int (nI (mx_n T)), .int (nI (mx_m F)), .ref (mA 4), .ref (mA 5), .ref (mA 6), .ref (mA 7), .ref (mA 8), .ref (mA 9), .int jo, .ref (mA 10), .ref (mA 11)])), (mA 3, .inl (cI, 16, .inl pls)), (mA 4, .inl (cI, 60, .inl msg)), (mA 5, .inl (cI, 180, .inl at_)), (mA 11, .inl (cZ, 60, .inl sd))] H → va_D A [(mA 0, .inr (4, [.int th, .ref (mA 1), .ref (mA 2), .ref (mA 3), .int (nI (mx_n T)), .int (nI (mx_m F)), .ref (mA 4), .ref (mA 5), .ref (mA 6), .ref (mA 7), .ref (mA 8), .ref (mA 9), .int jo, .ref (mA 10), .ref (mA 11)])), (mA 3, .inl (cI, 16, .inl pls)), (mA 4, .inl (cI, 60, .inl msg)), (mA 5, .inl (cI, 180, .inl at_)), (mA 11, .inl (cZ, 60, .inl sd))] → va_S A H0 H locs → lv_has ls 5 [(0, .ref (mA 0)), (2, .int many), (3, .int (nI k)), (4, .int (nI i))] → W p l e ({ frames := 0, cells := 0, slots := 0, locals := 0 }) s m args below meth c H locs 0 0 Q (F0 m 56 ls []) := by
  intro d
  induction d with
  | zero =>
    intro i sd H locs ls hd hI hP hD hS hl
    have h3 := mx_ar_le (mx_pl T) k
    obtain ⟨e1, e2, e3, -⟩ := hmt.1 k hk
    refine lv_iload hx hb dX4_standing_56 (lv_at hl 3 rfl) ?_
    refine lv_aload_n hx hb dX4_standing_58 rfl (lv_at hl 0 rfl) ?_
    refine va_get (D := (dC, dI)) (ci := 4) (v := .ref (mA 3)) (C := RX4) (T := TX4) (N := 15) hx hb hts (fun w h => woX4_standing w (inX4 w h)) hown hK hP 0 rfl rfl 3 (by decide) (hts _ (woX4_standing _ wd_496)) (fun _ h9 => h9) rfl dX4_standing_59 ?_
    refine lv_aload_n hx hb dX4_standing_62 rfl (lv_at hl 0 rfl) ?_
    refine va_get (D := (dC, dI)) (ci := 4) (v := .ref (mA 4)) (C := RX4) (T := TX4) (N := 15) hx hb hts (fun w h => woX4_standing w (inX4 w h)) hown hK hP 0 rfl rfl 6 (by decide) (hts _ (woX4_standing _ wd_499)) (fun _ h9 => h9) rfl dX4_standing_63 ?_
    refine lv_iload_n hx hb dX4_standing_66 rfl (lv_at hl 2 rfl) ?_
    refine va_iald hx hb hK hP 2 0 rfl rfl (vp_in_nI (by omega) (by omega)) dX4_standing_67 ?_
    rw [show (nI k).toNatClampNeg = k from nI_clamp (by omega)]
    rw [e1]
    refine va_iald hx hb hK hP 1 0 rfl rfl (vp_in_nI (by omega) (by omega)) dX4_standing_68 ?_
    rw [show (nI (mx_sg T k)).toNatClampNeg = (mx_sg T k) from nI_clamp (by omega)]
    rw [e3]
    refine lv_icmp_ge (tgt := 95) hx hb dX4_standing_69 (by decide) (fun c1 => ?_) (fun c1 => ?_)
    · refine kk sd _ _ _ (sd_out hpf hk (by omega) hI) hP hD hS (lv_sub hl [0, 1, 2] rfl)
    · exact absurd (nI_le (a := mx_ar (mx_pl T) k) (b := i) (by omega) (by omega)) c1
  | succ d ih =>
    intro i sd H locs ls hd hI hP hD hS hl
    have h3 := mx_ar_le (mx_pl T) k
    obtain ⟨e1, e2, e3, -⟩ := hmt.1 k hk
    refine lv_iload hx hb dX4_standing_56 (lv_at hl 3 rfl) ?_
    refine lv_aload_n hx hb dX4_standing_58 rfl (lv_at hl 0 rfl) ?_
    refine va_get (D := (dC, dI)) (ci := 4) (v := .ref (mA 3)) (C := RX4) (T := TX4) (N := 15) hx hb hts (fun w h => woX4_standing w (inX4 w h)) hown hK hP 0 rfl rfl 3 (by decide) (hts _ (woX4_standing _ wd_496)) (fun _ h9 => h9) rfl dX4_standing_59 ?_
    refine lv_aload_n hx hb dX4_standing_62 rfl (lv_at hl 0 rfl) ?_
    refine va_get (D := (dC, dI)) (ci := 4) (v := .ref (mA 4)) (C := RX4) (T := TX4) (N := 15) hx hb hts (fun w h => woX4_standing w (inX4 w h)) hown hK hP 0 rfl rfl 6 (by decide) (hts _ (woX4_standing _ wd_499)) (fun _ h9 => h9) rfl dX4_standing_63 ?_
    refine lv_iload_n hx hb dX4_standing_66 rfl (lv_at hl 2 rfl) ?_
    refine va_iald hx hb hK hP 2 0 rfl rfl (vp_in_nI (by omega) (by omega)) dX4_standing_67 ?_
    rw [show (nI k).toNatClampNeg = k from nI_clamp (by omega)]
    rw [e1]
    refine va_iald hx hb hK hP 1 0 rfl rfl (vp_in_nI (by omega) (by omega)) dX4_standing_68 ?_
    rw [show (nI (mx_sg T k)).toNatClampNeg = (mx_sg T k) from nI_clamp (by omega)]
    rw [e3]
    refine lv_icmp_ge (tgt := 95) hx hb dX4_standing_69 (by decide) (fun c1 => ?_) (fun c1 => ?_)
    · exact absurd c1 (nI_ge (show i < mx_ar (mx_pl T) k by omega) (by omega))
    · have hja : i < mx_ar (mx_pl T) k := by omega
      obtain ⟨p0, hp0⟩ := mx_ar_some hpf hk hja
      have lp : p0 < mx_n T := Nat.lt_trans (hw.1 k i p0 hk hp0) hk
      have ax : at_ (3 * k + i) = nI p0 := by rw [hmt.2 k i hk (by omega), hp0]; rfl
      refine lv_aload_n hx hb dX4_standing_72 rfl (lv_at hl 0 rfl) ?_
      refine va_get (D := (dC, dI)) (ci := 4) (v := .ref (mA 11)) (C := RX4) (T := TX4) (N := 15) hx hb hts (fun w h => woX4_standing w (inX4 w h)) hown hK hP 0 rfl rfl 14 (by decide) (hts _ (woX4_standing _ wd_507)) (fun _ h9 => h9) rfl dX4_standing_73 ?_
      refine lv_aload_n hx hb dX4_standing_76 rfl (lv_at hl 0 rfl) ?_
      refine va_get (D := (dC, dI)) (ci := 4) (v := .ref (mA 5)) (C := RX4) (T := TX4) (N := 15) hx hb hts (fun w h => woX4_standing w (inX4 w h)) hown hK hP 0 rfl rfl 7 (by decide) (hts _ (woX4_standing _ wd_500)) (fun _ h9 => h9) rfl dX4_standing_77 ?_
      refine lv_iconst (v := 3) hx hb dX4_standing_80 (by decide) ?_
      refine lv_iload_n hx hb dX4_standing_81 rfl (lv_at hl 2 rfl) ?_
      refine lv_imul hx hb dX4_standing_82 ?_
      refine lv_iload hx hb dX4_standing_83 (lv_at hl 3 rfl) ?_
      refine lv_iadd hx hb dX4_standing_85 ?_
      rw [ix3]
      refine va_iald hx hb hK hP 3 0 rfl rfl (vp_in_nI (by omega) (by omega)) dX4_standing_86 ?_
      rw [show (nI (3 * k + i)).toNatClampNeg = (3 * k + i) from nI_clamp (by omega)]
      rw [ax]
      refine lv_iconst (v := 1) hx hb dX4_standing_87 (by decide) ?_
      refine va_zast hx hb hK hP hD hS 4 2 rfl rfl (vp_in_nI (by omega) (by omega)) dX4_standing_88 (fun H locs hP hD hS => ?_)
      rw [show (nI p0).toNatClampNeg = p0 from nI_clamp (by omega)] at hP hD
      rw [show vp_nar .boolean 1 = 1 from by decide] at hP hD
      have hP : va_P (dC, dI) vwCl [(mA 0, .inr (4, [.int th, .ref (mA 1), .ref (mA 2), .ref (mA 3), .int (nI (mx_n T)), .int (nI (mx_m F)), .ref (mA 4), .ref (mA 5), .ref (mA 6), .ref (mA 7), .ref (mA 8), .ref (mA 9), .int jo, .ref (mA 10), .ref (mA 11)])), (mA 3, .inl (cI, 16, .inl pls)), (mA 4, .inl (cI, 60, .inl msg)), (mA 5, .inl (cI, 180, .inl at_)), (mA 11, .inl (cZ, 60, .inl (upd sd p0 1)))] H := hP
      have hD : va_D A [(mA 0, .inr (4, [.int th, .ref (mA 1), .ref (mA 2), .ref (mA 3), .int (nI (mx_n T)), .int (nI (mx_m F)), .ref (mA 4), .ref (mA 5), .ref (mA 6), .ref (mA 7), .ref (mA 8), .ref (mA 9), .int jo, .ref (mA 10), .ref (mA 11)])), (mA 3, .inl (cI, 16, .inl pls)), (mA 4, .inl (cI, 60, .inl msg)), (mA 5, .inl (cI, 180, .inl at_)), (mA 11, .inl (cZ, 60, .inl (upd sd p0 1)))] := hD
      obtain ⟨y_1, ey_1⟩ : ∃ y9 : Int32, y9 = (nI i) + 1 := ⟨_, rfl⟩
      refine lv_iinc (v := y_1) (lv' := [(4, .int y_1), (0, .ref (mA 0)), (2, .int many), (3, .int (nI k))]) hx hb dX4_standing_89 hl (k := 3) rfl (by rw [ey_1]; rfl) (by decide) rfl (fun ls hl => ?_)
      refine lv_goto (tgt := 56) hx hb dX4_standing_92 (by decide) ?_
      rw [ey_1, nI_1] at hl
      refine ih (i + 1) (upd sd p0 1) _ _ _ (by omega) (sd_mark hn hw hk (by omega) hp0 hI) hP hD hS (lv_sub hl [1, 2, 3, 0] rfl)

set_option maxHeartbeats 4000000 in
set_option maxRecDepth 100000 in
theorem sd_2 {p : Program} {l : Launch} {e : Env} {s : State} {m : MethodId} {args : Array Value} {below : List Frame} {meth : Method} {c : Code} {Q : State → Prop} (hx : p.tables.exec = Jvm.exec) (hb : c.code = cX4_standing) (hown : s.vm.findClass RX4 = some m.cls) (hts : ∀ w ∈ wsX4_standing, w.before args s = true) {dC : Nat → ClassId} {dI : Nat → Nat → Nat} {cI cJ cZ : ClassId} (hK : va_K (dC, dI) vwCl [(cI, .int), (cJ, .long), (cZ, .boolean)] s) {T : mx_T} {F : mx_F} {mA : Nat → Nat} {th : Int32} {jo : Int32} {isb : Nat → Int32} {pls : Nat → Int32} {msg : Nat → Int32} {at_ : Nat → Int32} {t : Nat} (hw : mx_wf T) (hpf : mx_pf T) (hn : mx_n T ≤ 60) (hmt : md_T T isb pls msg at_) (ht : t < mx_n T) {A : Nat → Prop} {H0 : Heap} (hA : ∀ q : Nat, H0.size ≤ q → A q) (hml : c.maxLocals = 5) (kk : ∀ (many : Int32) (sd : Nat → Int32) (H : Heap) (locs : List Loc) (ls : Array Slot), (sd_I T t 0 sd many) → va_P (dC, dI) vwCl [(mA 0, .inr (4, [.int th, .ref (mA 1), .ref (mA 2), .ref (mA 3), .int (nI (mx_n T)), .int (nI (mx_m F)), .ref (mA 4), .ref (mA 5), .ref (mA 6), .ref (mA 7), .ref (mA 8), .ref (mA 9), .int jo, .ref (mA 10), .ref (mA 11)])), (mA 3, .inl (cI, 16, .inl pls)), (mA 4, .inl (cI, 60, .inl msg)), (mA 5, .inl (cI, 180, .inl at_)), (mA 11, .inl (cZ, 60, .inl sd))] H → va_D A [(mA 0, .inr (4, [.int th, .ref (mA 1), .ref (mA 2), .ref (mA 3), .int (nI (mx_n T)), .int (nI (mx_m F)), .ref (mA 4), .ref (mA 5), .ref (mA 6), .ref (mA 7), .ref (mA 8), .ref (mA 9), .int jo, .ref (mA 10), .ref (mA 11)])), (mA 3, .inl (cI, 16, .inl pls)), (mA 4, .inl (cI, 60, .inl msg)), (mA 5, .inl (cI, 180, .inl at_)), (mA 11, .inl (cZ, 60, .inl sd))] → va_S A H0 H locs → lv_has ls 5 [(2, .int many)] → W p l e ({ frames := 0, cells := 0, slots := 0, locals := 0 }) s m args below meth c H locs 0 0 Q (F0 m 101 ls [])) : ∀ (d : Nat) (j : Nat) (kv : Int32) (many : Int32) (sd : Nat → Int32) (H : Heap) (locs : List Loc) (ls : Array Slot), (j = d) → (j ≤ t + 1) → (kv = nI j - 1) → (sd_I T t j sd many) → va_P (dC, dI) vwCl [(mA 0, .inr (4, [.int th, .ref (mA 1), .ref (mA 2), .ref (mA 3), .int (nI (mx_n T)), .int (nI (mx_m F)), .ref (mA 4), .ref (mA 5), .ref (mA 6), .ref (mA 7), .ref (mA 8), .ref (mA 9), .int jo, .ref (mA 10), .ref (mA 11)])), (mA 3, .inl (cI, 16, .inl pls)), (mA 4, .inl (cI, 60, .inl msg)), (mA 5, .inl (cI, 180, .inl at_)), (mA 11, .inl (cZ, 60, .inl sd))] H → va_D A [(mA 0, .inr (4, [.int th, .ref (mA 1), .ref (mA 2), .ref (mA 3), .int (nI (mx_n T)), .int (nI (mx_m F)), .ref (mA 4), .ref (mA 5), .ref (mA 6), .ref (mA 7), .ref (mA 8), .ref (mA 9), .int jo, .ref (mA 10), .ref (mA 11)])), (mA 3, .inl (cI, 16, .inl pls)), (mA 4, .inl (cI, 60, .inl msg)), (mA 5, .inl (cI, 180, .inl at_)), (mA 11, .inl (cZ, 60, .inl sd))] → va_S A H0 H locs → lv_has ls 5 [(0, .ref (mA 0)), (2, .int many), (3, .int kv)] → W p l e ({ frames := 0, cells := 0, slots := 0, locals := 0 }) s m args below meth c H locs 0 0 Q (F0 m 34 ls []) := by
  intro d
  induction d with
  | zero =>
    intro j kv many sd H locs ls hd hj hk hI hP hD hS hl
    subst hd
    subst hk
    refine lv_iload_n hx hb dX4_standing_34 rfl (lv_at hl 2 rfl) ?_
    refine lv_if_lt (tgt := 101) hx hb dX4_standing_35 (by decide) (fun c1 => ?_) (fun c1 => ?_)
    · refine kk many sd _ _ _ hI hP hD hS (lv_sub hl [1] rfl)
    · exact absurd (by decide) c1
  | succ d ih =>
    intro j kv many sd H locs ls hd hj hk hI hP hD hS hl
    subst hd
    have hd0 : d < mx_n T := by omega
    have hk : kv = nI d := by rw [hk]; exact nI_pred d
    subst hk
    refine lv_iload_n hx hb dX4_standing_34 rfl (lv_at hl 2 rfl) ?_
    refine lv_if_lt (tgt := 101) hx hb dX4_standing_35 (by decide) (fun c1 => ?_) (fun c1 => ?_)
    · exact absurd c1 (nI_pos (by omega))
    · refine lv_aload_n hx hb dX4_standing_38 rfl (lv_at hl 0 rfl) ?_
      refine va_get (D := (dC, dI)) (ci := 4) (v := .ref (mA 11)) (C := RX4) (T := TX4) (N := 15) hx hb hts (fun w h => woX4_standing w (inX4 w h)) hown hK hP 0 rfl rfl 14 (by decide) (hts _ (woX4_standing _ wd_507)) (fun _ h9 => h9) rfl dX4_standing_39 ?_
      refine lv_iload_n hx hb dX4_standing_42 rfl (lv_at hl 2 rfl) ?_
      refine va_zald hx hb hK hP 4 2 rfl rfl (vp_in_nI (by omega) (by omega)) dX4_standing_43 ?_
      rw [show (nI d).toNatClampNeg = d from nI_clamp (by omega)]
      refine lv_if_ne (tgt := 50) hx hb dX4_standing_44 (by decide) (fun c2 => ?_) (fun c2 => ?_)
      · have h1 : sd d = 1 := (hI.1 d (by omega)).resolve_left c2
        obtain ⟨y_1, ey_1⟩ : ∃ y9 : Int32, y9 = many + 1 := ⟨_, rfl⟩
        refine lv_iinc (v := y_1) (lv' := [(2, .int y_1), (0, .ref (mA 0)), (3, .int (nI d))]) hx hb dX4_standing_50 hl (k := 1) rfl (by rw [ey_1]; rfl) (by decide) rfl (fun ls hl => ?_)
        refine lv_iconst (v := 0) hx hb dX4_standing_53 (by decide) ?_
        refine lv_istore (lv' := [(4, .int 0), (2, .int y_1), (0, .ref (mA 0)), (3, .int (nI d))]) hx hb dX4_standing_54 hl (by decide) rfl (fun ls hl => ?_)
        refine sd_3 hx hb hown hts hK hw hpf hn hmt ht hd0 hA hml (fun sd9 H locs ls hI9 hP hD hS hl => ?_) (mx_ar (mx_pl T) d) 0 sd _ _ _ (by omega) (sd_in hd0 hI h1 ey_1) hP hD hS (lv_sub hl [2, 1, 3, 0] rfl)
        obtain ⟨y_2, ey_2⟩ : ∃ y9 : Int32, y9 = (nI d) + (-1) := ⟨_, rfl⟩
        refine lv_iinc (v := y_2) (lv' := [(3, .int y_2), (0, .ref (mA 0)), (2, .int y_1)]) hx hb dX4_standing_95 hl (k := 2) rfl (by rw [ey_2]; rfl) (by decide) rfl (fun ls hl => ?_)
        refine lv_goto (tgt := 34) hx hb dX4_standing_98 (by decide) ?_
        rw [pm1] at ey_2
        refine ih d y_2 y_1 sd9 _ _ _ rfl (by omega) ey_2 hI9 hP hD hS (lv_sub hl [1, 2, 0] rfl)
      · refine lv_goto (tgt := 95) hx hb dX4_standing_47 (by decide) ?_
        obtain ⟨y_3, ey_3⟩ : ∃ y9 : Int32, y9 = (nI d) + (-1) := ⟨_, rfl⟩
        refine lv_iinc (v := y_3) (lv' := [(3, .int y_3), (0, .ref (mA 0)), (2, .int many)]) hx hb dX4_standing_95 hl (k := 2) rfl (by rw [ey_3]; rfl) (by decide) rfl (fun ls hl => ?_)
        refine lv_goto (tgt := 34) hx hb dX4_standing_98 (by decide) ?_
        rw [pm1] at ey_3
        refine ih d y_3 many sd _ _ _ rfl (by omega) ey_3 (sd_skip hn hd0 hI (fun z => by rw [z] at c2; exact absurd c2 (by decide))) hP hD hS (lv_sub hl [1, 2, 0] rfl)

set_option maxHeartbeats 4000000 in
set_option maxRecDepth 100000 in
/-- the reference: standing -/
theorem m_standing (l : Launch) (dC : Nat → ClassId) (dI : Nat → Nat → Nat) (cI cJ cZ : ClassId) (T : mx_T) (F : mx_F) (mA : Nat → Nat) (th : Int32) (jo : Int32) (isb : Nat → Int32) (pls : Nat → Int32) (msg : Nat → Int32) (at_ : Nat → Int32) (sd : Nat → Int32) (t : Nat) (sz : Nat) (hw : mx_wf T) (hpf : mx_pf T) (hn : mx_n T ≤ 60) (hmt : md_T T isb pls msg at_) (ht : t < mx_n T) : Met l yX4_standing wsX4_standing ({ frames := 0, cells := 0, slots := 0, locals := 0 }) (va_Pc [.ref (mA 0), .int (nI t)] (fun U => U.heap.size = sz ∧ va_P (dC, dI) vwCl [(mA 0, .inr (4, [.int th, .ref (mA 1), .ref (mA 2), .ref (mA 3), .int (nI (mx_n T)), .int (nI (mx_m F)), .ref (mA 4), .ref (mA 5), .ref (mA 6), .ref (mA 7), .ref (mA 8), .ref (mA 9), .int jo, .ref (mA 10), .ref (mA 11)])), (mA 3, .inl (cI, 16, .inl pls)), (mA 4, .inl (cI, 60, .inl msg)), (mA 5, .inl (cI, 180, .inl at_)), (mA 11, .inl (cZ, 60, .inl sd))] U.heap ∧ va_K (dC, dI) vwCl [(cI, .int), (cJ, .long), (cZ, .boolean)] U ∧ va_D (fun _ => True) [(mA 0, .inr (4, [.int th, .ref (mA 1), .ref (mA 2), .ref (mA 3), .int (nI (mx_n T)), .int (nI (mx_m F)), .ref (mA 4), .ref (mA 5), .ref (mA 6), .ref (mA 7), .ref (mA 8), .ref (mA 9), .int jo, .ref (mA 10), .ref (mA 11)])), (mA 3, .inl (cI, 16, .inl pls)), (mA 4, .inl (cI, 60, .inl msg)), (mA 5, .inl (cI, 180, .inl at_)), (mA 11, .inl (cZ, 60, .inl sd))])) (va_Qi (fun r u => r = nI (mx_cnt (su_b T t) (mx_n T))) (fun (u : Nat → Int32) t7 => match u with | sd2 => va_P (dC, dI) vwCl [(mA 0, .inr (4, [.int th, .ref (mA 1), .ref (mA 2), .ref (mA 3), .int (nI (mx_n T)), .int (nI (mx_m F)), .ref (mA 4), .ref (mA 5), .ref (mA 6), .ref (mA 7), .ref (mA 8), .ref (mA 9), .int jo, .ref (mA 10), .ref (mA 11)])), (mA 3, .inl (cI, 16, .inl pls)), (mA 4, .inl (cI, 60, .inl msg)), (mA 5, .inl (cI, 180, .inl at_)), (mA 11, .inl (cZ, 60, .inl sd2))] t7.heap ∧ va_K (dC, dI) vwCl [(cI, .int), (cJ, .long), (cZ, .boolean)] t7 ∧ va_D (va_A [(mA 0, .inr (4, [.int th, .ref (mA 1), .ref (mA 2), .ref (mA 3), .int (nI (mx_n T)), .int (nI (mx_m F)), .ref (mA 4), .ref (mA 5), .ref (mA 6), .ref (mA 7), .ref (mA 8), .ref (mA 9), .int jo, .ref (mA 10), .ref (mA 11)])), (mA 3, .inl (cI, 16, .inl pls)), (mA 4, .inl (cI, 60, .inl msg)), (mA 5, .inl (cI, 180, .inl at_)), (mA 11, .inl (cZ, 60, .inl sd))] sz) [(mA 0, .inr (4, [.int th, .ref (mA 1), .ref (mA 2), .ref (mA 3), .int (nI (mx_n T)), .int (nI (mx_m F)), .ref (mA 4), .ref (mA 5), .ref (mA 6), .ref (mA 7), .ref (mA 8), .ref (mA 9), .int jo, .ref (mA 10), .ref (mA 11)])), (mA 3, .inl (cI, 16, .inl pls)), (mA 4, .inl (cI, 60, .inl msg)), (mA 5, .inl (cI, 180, .inl at_)), (mA 11, .inl (cZ, 60, .inl sd2))]) (va_A [(mA 0, .inr (4, [.int th, .ref (mA 1), .ref (mA 2), .ref (mA 3), .int (nI (mx_n T)), .int (nI (mx_m F)), .ref (mA 4), .ref (mA 5), .ref (mA 6), .ref (mA 7), .ref (mA 8), .ref (mA 9), .int jo, .ref (mA 10), .ref (mA 11)])), (mA 3, .inl (cI, 16, .inl pls)), (mA 4, .inl (cI, 60, .inl msg)), (mA 5, .inl (cI, 180, .inl at_)), (mA 11, .inl (cZ, 60, .inl sd))] sz)) 0 0 (va_A [(mA 0, .inr (4, [.int th, .ref (mA 1), .ref (mA 2), .ref (mA 3), .int (nI (mx_n T)), .int (nI (mx_m F)), .ref (mA 4), .ref (mA 5), .ref (mA 6), .ref (mA 7), .ref (mA 8), .ref (mA 9), .int jo, .ref (mA 10), .ref (mA 11)])), (mA 3, .inl (cI, 16, .inl pls)), (mA 4, .inl (cI, 60, .inl msg)), (mA 5, .inl (cI, 180, .inl at_)), (mA 11, .inl (cZ, 60, .inl sd))] sz) := by
  refine Met.ofW (cc := cX4_standing) (maxL := 5) (ret := (some .int)) (by decide) rfl ?_
  intro p e s m args below meth c s₁ B hml hv
  obtain ⟨rfl, hsz, hP, hK, hD0⟩ := hv
  have hx := B.exec
  have hb := B.bytes
  have hr := B.returns
  have hts := atoms_spec (ws := wsX4_standing) B.pre
  have hown : s.vm.findClass RX4 = some m.cls := findClass_of_methodNamed B.named
  have hlocks := B.notSynchronized
  subst hsz
  have hD := hD0.self (sz := s.heap.size)
  generalize hAe : va_A [(mA 0, .inr (4, [.int th, .ref (mA 1), .ref (mA 2), .ref (mA 3), .int (nI (mx_n T)), .int (nI (mx_m F)), .ref (mA 4), .ref (mA 5), .ref (mA 6), .ref (mA 7), .ref (mA 8), .ref (mA 9), .int jo, .ref (mA 10), .ref (mA 11)])), (mA 3, .inl (cI, 16, .inl pls)), (mA 4, .inl (cI, 60, .inl msg)), (mA 5, .inl (cI, 180, .inl at_)), (mA 11, .inl (cZ, 60, .inl sd))] s.heap.size = A at hD ⊢
  have hA : ∀ q : Nat, s.heap.size ≤ q → A q := fun q h => by rw [← hAe]; exact Or.inr h
  have hS : va_S A s.heap s.heap [] := va_S.rf
  have hP : va_P (dC, dI) vwCl [(mA 0, .inr (4, [.int th, .ref (mA 1), .ref (mA 2), .ref (mA 3), .int (nI (mx_n T)), .int (nI (mx_m F)), .ref (mA 4), .ref (mA 5), .ref (mA 6), .ref (mA 7), .ref (mA 8), .ref (mA 9), .int jo, .ref (mA 10), .ref (mA 11)])), (mA 3, .inl (cI, 16, .inl pls)), (mA 4, .inl (cI, 60, .inl msg)), (mA 5, .inl (cI, 180, .inl at_)), (mA 11, .inl (cZ, 60, .inl sd))] s.heap := hP
  have hl := lv_entry ([.ref (mA 0), .int (nI t)]) (n := 5) (Nat.le_of_ble_eq_true rfl)
  rw [lg_entry_eq]
  generalize (lg_sl ([.ref (mA 0), .int (nI t)]) ++ List.replicate (5 - (lg_sl ([.ref (mA 0), .int (nI t)])).length) Slot.unset).toArray = ls at hl ⊢
  have hl : lv_has ls 5 [(0, .ref (mA 0)), (1, .int (nI t))] := hl
  refine lv_iconst (v := 0) hx hb dX4_standing_0 (by decide) ?_
  refine lv_istore_n (lv' := [(2, .int 0), (0, .ref (mA 0)), (1, .int (nI t))]) hx hb dX4_standing_1 rfl hl (by decide) rfl (fun ls hl => ?_)
  refine lv_iconst (v := 0) hx hb dX4_standing_2 (by decide) ?_
  refine lv_istore_n (lv' := [(3, .int 0), (2, .int 0), (0, .ref (mA 0)), (1, .int (nI t))]) hx hb dX4_standing_3 rfl hl (by decide) rfl (fun ls hl => ?_)
  refine sd_1 hx hb hown hts hK hw hpf hn hmt ht hA hml (fun sd9 H locs ls hI9 hP hD hS hl => ?_) 60 0 sd _ _ _ (by omega) (fun u hu => absurd hu (Nat.not_lt_zero u)) hP hD hS (lv_sub hl [2, 3, 1, 0] rfl)
  refine lv_iload_n hx hb dX4_standing_32 rfl (lv_at hl 1 rfl) ?_
  refine lv_istore_n (lv' := [(3, .int (nI t)), (0, .ref (mA 0)), (1, .int (nI t)), (2, .int 0)]) hx hb dX4_standing_33 rfl hl (by decide) rfl (fun ls hl => ?_)
  refine sd_2 hx hb hown hts hK hw hpf hn hmt ht hA hml (fun many sd8 H locs ls hI8 hP hD hS hl => ?_) (t + 1) (t + 1) (nI t) 0 sd9 _ _ _ rfl (Nat.le_refl _) (nI_pred t).symm (sd_0 hw hn ht hI9) hP hD hS (lv_sub hl [1, 3, 0] rfl)
  refine lv_iload_n hx hb dX4_standing_101 rfl (lv_at hl 0 rfl) ?_
  have hP9 := hP.sub (ws' := [(mA 0, .inr (4, [.int th, .ref (mA 1), .ref (mA 2), .ref (mA 3), .int (nI (mx_n T)), .int (nI (mx_m F)), .ref (mA 4), .ref (mA 5), .ref (mA 6), .ref (mA 7), .ref (mA 8), .ref (mA 9), .int jo, .ref (mA 10), .ref (mA 11)])), (mA 3, .inl (cI, 16, .inl pls)), (mA 4, .inl (cI, 60, .inl msg)), (mA 5, .inl (cI, 180, .inl at_)), (mA 11, .inl (cZ, 60, .inl sd8))]) [0, 1, 2, 3, 4] rfl
  have hD9 := hD.sub (ws' := [(mA 0, .inr (4, [.int th, .ref (mA 1), .ref (mA 2), .ref (mA 3), .int (nI (mx_n T)), .int (nI (mx_m F)), .ref (mA 4), .ref (mA 5), .ref (mA 6), .ref (mA 7), .ref (mA 8), .ref (mA 9), .int jo, .ref (mA 10), .ref (mA 11)])), (mA 3, .inl (cI, 16, .inl pls)), (mA 4, .inl (cI, 60, .inl msg)), (mA 5, .inl (cI, 180, .inl at_)), (mA 11, .inl (cZ, 60, .inl sd8))]) [0, 1, 2, 3, 4] (by decide) rfl
  exact W.iret (v := many) hx hb hr (fun t9 ht9 hW9 => ⟨⟨many, sd8, rfl, sd_end hw hn ht hI8, by rw [ht9]; exact hP9, va_K.moved hW9.alike hK, hD9⟩, hS.F ht9⟩) hS.2.2 dX4_standing_102

set_option maxHeartbeats 4000000 in
set_option maxRecDepth 100000 in
/-- the reference: part -/
theorem m_part (l : Launch) (dC : Nat → ClassId) (dI : Nat → Nat → Nat) (cI cJ cZ : ClassId) (T : mx_T) (F : mx_F) (mA : Nat → Nat) (th : Int32) (jo : Int32) (isb : Nat → Int32) (pls : Nat → Int32) (msg : Nat → Int32) (at_ : Nat → Int32) (sd : Nat → Int32) (t : Int32) (w0 : Int32) (sz : Nat) (hw : mx_wf T) (hpf : mx_pf T) (hn : mx_n T ≤ 60) (hmt : md_T T isb pls msg at_) : Met l yX4_part wsX4_part ({ frames := 1, cells := 0, slots := 0, locals := 24 }) (va_Pc [.ref (mA 0), .int t, .int w0] (fun U => U.heap.size = sz ∧ va_P (dC, dI) vwCl [(mA 0, .inr (4, [.int th, .ref (mA 1), .ref (mA 2), .ref (mA 3), .int (nI (mx_n T)), .int (nI (mx_m F)), .ref (mA 4), .ref (mA 5), .ref (mA 6), .ref (mA 7), .ref (mA 8), .ref (mA 9), .int jo, .ref (mA 10), .ref (mA 11)])), (mA 3, .inl (cI, 16, .inl pls)), (mA 4, .inl (cI, 60, .inl msg)), (mA 5, .inl (cI, 180, .inl at_)), (mA 11, .inl (cZ, 60, .inl sd))] U.heap ∧ va_K (dC, dI) vwCl [(cI, .int), (cJ, .long), (cZ, .boolean)] U ∧ va_D (fun _ => True) [(mA 0, .inr (4, [.int th, .ref (mA 1), .ref (mA 2), .ref (mA 3), .int (nI (mx_n T)), .int (nI (mx_m F)), .ref (mA 4), .ref (mA 5), .ref (mA 6), .ref (mA 7), .ref (mA 8), .ref (mA 9), .int jo, .ref (mA 10), .ref (mA 11)])), (mA 3, .inl (cI, 16, .inl pls)), (mA 4, .inl (cI, 60, .inl msg)), (mA 5, .inl (cI, 180, .inl at_)), (mA 11, .inl (cZ, 60, .inl sd))])) (va_Qi (fun r u => pt_P T t w0 r) (fun (u : Nat → Int32) t7 => match u with | sd2 => va_P (dC, dI) vwCl [(mA 0, .inr (4, [.int 0, .ref (mA 1), .ref (mA 2), .ref (mA 3), .int (nI (mx_n T)), .int (nI (mx_m F)), .ref (mA 4), .ref (mA 5), .ref (mA 6), .ref (mA 7), .ref (mA 8), .ref (mA 9), .int jo, .ref (mA 10), .ref (mA 11)])), (mA 3, .inl (cI, 16, .inl pls)), (mA 4, .inl (cI, 60, .inl msg)), (mA 5, .inl (cI, 180, .inl at_)), (mA 11, .inl (cZ, 60, .inl sd2))] t7.heap ∧ va_K (dC, dI) vwCl [(cI, .int), (cJ, .long), (cZ, .boolean)] t7 ∧ va_D (va_A [(mA 0, .inr (4, [.int th, .ref (mA 1), .ref (mA 2), .ref (mA 3), .int (nI (mx_n T)), .int (nI (mx_m F)), .ref (mA 4), .ref (mA 5), .ref (mA 6), .ref (mA 7), .ref (mA 8), .ref (mA 9), .int jo, .ref (mA 10), .ref (mA 11)])), (mA 3, .inl (cI, 16, .inl pls)), (mA 4, .inl (cI, 60, .inl msg)), (mA 5, .inl (cI, 180, .inl at_)), (mA 11, .inl (cZ, 60, .inl sd))] sz) [(mA 0, .inr (4, [.int 0, .ref (mA 1), .ref (mA 2), .ref (mA 3), .int (nI (mx_n T)), .int (nI (mx_m F)), .ref (mA 4), .ref (mA 5), .ref (mA 6), .ref (mA 7), .ref (mA 8), .ref (mA 9), .int jo, .ref (mA 10), .ref (mA 11)])), (mA 3, .inl (cI, 16, .inl pls)), (mA 4, .inl (cI, 60, .inl msg)), (mA 5, .inl (cI, 180, .inl at_)), (mA 11, .inl (cZ, 60, .inl sd2))]) (va_A [(mA 0, .inr (4, [.int th, .ref (mA 1), .ref (mA 2), .ref (mA 3), .int (nI (mx_n T)), .int (nI (mx_m F)), .ref (mA 4), .ref (mA 5), .ref (mA 6), .ref (mA 7), .ref (mA 8), .ref (mA 9), .int jo, .ref (mA 10), .ref (mA 11)])), (mA 3, .inl (cI, 16, .inl pls)), (mA 4, .inl (cI, 60, .inl msg)), (mA 5, .inl (cI, 180, .inl at_)), (mA 11, .inl (cZ, 60, .inl sd))] sz)) 0 0 (va_A [(mA 0, .inr (4, [.int th, .ref (mA 1), .ref (mA 2), .ref (mA 3), .int (nI (mx_n T)), .int (nI (mx_m F)), .ref (mA 4), .ref (mA 5), .ref (mA 6), .ref (mA 7), .ref (mA 8), .ref (mA 9), .int jo, .ref (mA 10), .ref (mA 11)])), (mA 3, .inl (cI, 16, .inl pls)), (mA 4, .inl (cI, 60, .inl msg)), (mA 5, .inl (cI, 180, .inl at_)), (mA 11, .inl (cZ, 60, .inl sd))] sz) := by
  refine Met.ofW (cc := cX4_part) (maxL := 3) (ret := (some .int)) (by decide) rfl ?_
  intro p e s m args below meth c s₁ B hml hv
  obtain ⟨rfl, hsz, hP, hK, hD0⟩ := hv
  have hx := B.exec
  have hb := B.bytes
  have hr := B.returns
  have hts := atoms_spec (ws := wsX4_part) B.pre
  have hown : s.vm.findClass RX4 = some m.cls := findClass_of_methodNamed B.named
  have hlocks := B.notSynchronized
  subst hsz
  have hD := hD0.self (sz := s.heap.size)
  generalize hAe : va_A [(mA 0, .inr (4, [.int th, .ref (mA 1), .ref (mA 2), .ref (mA 3), .int (nI (mx_n T)), .int (nI (mx_m F)), .ref (mA 4), .ref (mA 5), .ref (mA 6), .ref (mA 7), .ref (mA 8), .ref (mA 9), .int jo, .ref (mA 10), .ref (mA 11)])), (mA 3, .inl (cI, 16, .inl pls)), (mA 4, .inl (cI, 60, .inl msg)), (mA 5, .inl (cI, 180, .inl at_)), (mA 11, .inl (cZ, 60, .inl sd))] s.heap.size = A at hD ⊢
  have hA : ∀ q : Nat, s.heap.size ≤ q → A q := fun q h => by rw [← hAe]; exact Or.inr h
  have hS : va_S A s.heap s.heap [] := va_S.rf
  have hP : va_P (dC, dI) vwCl [(mA 0, .inr (4, [.int th, .ref (mA 1), .ref (mA 2), .ref (mA 3), .int (nI (mx_n T)), .int (nI (mx_m F)), .ref (mA 4), .ref (mA 5), .ref (mA 6), .ref (mA 7), .ref (mA 8), .ref (mA 9), .int jo, .ref (mA 10), .ref (mA 11)])), (mA 3, .inl (cI, 16, .inl pls)), (mA 4, .inl (cI, 60, .inl msg)), (mA 5, .inl (cI, 180, .inl at_)), (mA 11, .inl (cZ, 60, .inl sd))] s.heap := hP
  have hl := lv_entry ([.ref (mA 0), .int t, .int w0]) (n := 3) (Nat.le_of_ble_eq_true rfl)
  rw [lg_entry_eq]
  generalize (lg_sl ([.ref (mA 0), .int t, .int w0]) ++ List.replicate (3 - (lg_sl ([.ref (mA 0), .int t, .int w0])).length) Slot.unset).toArray = ls at hl ⊢
  have hl : lv_has ls 3 [(0, .ref (mA 0)), (1, .int t), (2, .int w0)] := hl
  refine lv_aload_n hx hb dX4_part_0 rfl (lv_at hl 0 rfl) ?_
  refine lv_iconst (v := 0) hx hb dX4_part_1 (by decide) ?_
  refine va_put (D := (dC, dI)) (ci := 4) (v := .int 0) (ty := .int) (C := RX4) (T := TX4) (N := 15) hx hb hts (fun w h => woX4_part w (inX4 w h)) tyX4 tyX4_ok nmX4 hown hK hP hD hS 0 rfl rfl 0 (by decide) (hts _ (woX4_part _ wd_493)) (fun _ h9 => h9) rfl (by decide +kernel) rfl rfl (Nat.le_of_ble_eq_true rfl) dX4_part_2 (fun H locs hP hD hS => ?_)
  have hP : va_P (dC, dI) vwCl [(mA 0, .inr (4, [.int 0, .ref (mA 1), .ref (mA 2), .ref (mA 3), .int (nI (mx_n T)), .int (nI (mx_m F)), .ref (mA 4), .ref (mA 5), .ref (mA 6), .ref (mA 7), .ref (mA 8), .ref (mA 9), .int jo, .ref (mA 10), .ref (mA 11)])), (mA 3, .inl (cI, 16, .inl pls)), (mA 4, .inl (cI, 60, .inl msg)), (mA 5, .inl (cI, 180, .inl at_)), (mA 11, .inl (cZ, 60, .inl sd))] H := hP
  have hD : va_D A [(mA 0, .inr (4, [.int 0, .ref (mA 1), .ref (mA 2), .ref (mA 3), .int (nI (mx_n T)), .int (nI (mx_m F)), .ref (mA 4), .ref (mA 5), .ref (mA 6), .ref (mA 7), .ref (mA 8), .ref (mA 9), .int jo, .ref (mA 10), .ref (mA 11)])), (mA 3, .inl (cI, 16, .inl pls)), (mA 4, .inl (cI, 60, .inl msg)), (mA 5, .inl (cI, 180, .inl at_)), (mA 11, .inl (cZ, 60, .inl sd))] := hD
  refine lv_aload_n hx hb dX4_part_5 rfl (lv_at hl 0 rfl) ?_
  refine lv_iload_n hx hb dX4_part_6 rfl (lv_at hl 1 rfl) ?_
  have hPc := hP.sub (ws' := [(mA 0, .inr (4, [.int 0, .ref (mA 1), .ref (mA 2), .ref (mA 3), .int (nI (mx_n T)), .int (nI (mx_m F)), .ref (mA 4), .ref (mA 5), .ref (mA 6), .ref (mA 7), .ref (mA 8), .ref (mA 9), .int jo, .ref (mA 10), .ref (mA 11)]))]) [0] rfl
  refine vp_callSi (W.runV (As := [.int t]) (rest := []) ⟨hx, hb, hml, hown, hts⟩ (m_isTerm l dC dI cI cJ cZ T F mA 0 jo t hn) (cwV 1 hts (w0_goodV woX4_part wd_558 wd_555 wd_557 ws_13 wd_5) rfl rfl rfl (by decide +kernel) ⟨Nat.le_of_ble_eq_true rfl, Nat.le_of_ble_eq_true rfl⟩) ⟨fun a U g mk q => by obtain ⟨q0, qP, qK⟩ := q; exact ⟨q0, qP, va_K.moved (u := U) (U := U.calling g mk a) (Vm.Alike.refl U.vm) qK⟩, va_recv hK hP (ci := 4) (q0 := 0) rfl rfl, fun U hU hW => ⟨rfl, by rw [hU]; exact hPc, va_K.moved hW.alike hK⟩⟩ rfl rfl hl.1 rfl (lv_room (Nat.le_of_ble_eq_true rfl)) dX4_part_7 ⟨Nat.zero_le _, Nat.zero_le _⟩) (fun r1 hr1 => ?_)
  refine lv_if_ne (tgt := 15) hx hb dX4_part_10 (by decide) (fun c1 => ?_) (fun c1 => ?_)
  · obtain ⟨x, hx0, rfl⟩ := zb_t hr1 c1
    obtain ⟨e1, e2, -, -⟩ := hmt.1 x hx0
    refine lv_iload_n hx hb dX4_part_15 rfl (lv_at hl 2 rfl) ?_
    refine lv_if_ne (tgt := 26) hx hb dX4_part_16 (by decide) (fun d0 => ?_) (fun d0 => ?_)
    · refine lv_iload_n hx hb dX4_part_26 rfl (lv_at hl 2 rfl) ?_
      refine lv_if_le (tgt := 48) hx hb dX4_part_27 (by decide) (fun d1 => ?_) (fun d1 => ?_)
      · obtain ⟨n1, n2, n3⟩ := w_no (Or.inl d1) d0
        refine lv_iload_n hx hb dX4_part_48 rfl (lv_at hl 2 rfl) ?_
        refine lv_iconst (v := 4) hx hb dX4_part_49 (by decide) ?_
        refine lv_icmp_ne (tgt := 61) hx hb dX4_part_50 (by decide) (fun d4 => ?_) (fun d4 => ?_)
        · refine lv_iconst (v := (-1)) hx hb dX4_part_61 (by decide) ?_
          have hP9 := hP.sub (ws' := [(mA 0, .inr (4, [.int 0, .ref (mA 1), .ref (mA 2), .ref (mA 3), .int (nI (mx_n T)), .int (nI (mx_m F)), .ref (mA 4), .ref (mA 5), .ref (mA 6), .ref (mA 7), .ref (mA 8), .ref (mA 9), .int jo, .ref (mA 10), .ref (mA 11)])), (mA 3, .inl (cI, 16, .inl pls)), (mA 4, .inl (cI, 60, .inl msg)), (mA 5, .inl (cI, 180, .inl at_)), (mA 11, .inl (cZ, 60, .inl sd))]) [0, 1, 2, 3, 4] rfl
          have hD9 := hD.sub (ws' := [(mA 0, .inr (4, [.int 0, .ref (mA 1), .ref (mA 2), .ref (mA 3), .int (nI (mx_n T)), .int (nI (mx_m F)), .ref (mA 4), .ref (mA 5), .ref (mA 6), .ref (mA 7), .ref (mA 8), .ref (mA 9), .int jo, .ref (mA 10), .ref (mA 11)])), (mA 3, .inl (cI, 16, .inl pls)), (mA 4, .inl (cI, 60, .inl msg)), (mA 5, .inl (cI, 180, .inl at_)), (mA 11, .inl (cZ, 60, .inl sd))]) [0, 1, 2, 3, 4] (by decide) rfl
          exact W.iret (v := (-1)) hx hb hr (fun t9 ht9 hW9 => ⟨⟨(-1), sd, rfl, Or.inr ⟨x, hx0, rfl, by rw [if_neg d0, if_neg n1, if_neg n2, if_neg n3, if_neg d4]⟩, by rw [ht9]; exact hP9, va_K.moved hW9.alike hK, hD9⟩, hS.F ht9⟩) hS.2.2 dX4_part_62
        · refine lv_aload_n hx hb dX4_part_53 rfl (lv_at hl 0 rfl) ?_
          refine lv_iload_n hx hb dX4_part_54 rfl (lv_at hl 1 rfl) ?_
          have hPc := hP.sub (ws' := [(mA 0, .inr (4, [.int 0, .ref (mA 1), .ref (mA 2), .ref (mA 3), .int (nI (mx_n T)), .int (nI (mx_m F)), .ref (mA 4), .ref (mA 5), .ref (mA 6), .ref (mA 7), .ref (mA 8), .ref (mA 9), .int jo, .ref (mA 10), .ref (mA 11)])), (mA 3, .inl (cI, 16, .inl pls)), (mA 4, .inl (cI, 60, .inl msg)), (mA 5, .inl (cI, 180, .inl at_)), (mA 11, .inl (cZ, 60, .inl sd))]) [0, 1, 2, 3, 4] rfl
          have hDc := hD.sub (ws' := [(mA 0, .inr (4, [.int 0, .ref (mA 1), .ref (mA 2), .ref (mA 3), .int (nI (mx_n T)), .int (nI (mx_m F)), .ref (mA 4), .ref (mA 5), .ref (mA 6), .ref (mA 7), .ref (mA 8), .ref (mA 9), .int jo, .ref (mA 10), .ref (mA 11)])), (mA 3, .inl (cI, 16, .inl pls)), (mA 4, .inl (cI, 60, .inl msg)), (mA 5, .inl (cI, 180, .inl at_)), (mA 11, .inl (cZ, 60, .inl sd))]) [0, 1, 2, 3, 4] (by decide) rfl
          have hFc := va_free (wc := [(mA 0, .inr (4, [.int 0, .ref (mA 1), .ref (mA 2), .ref (mA 3), .int (nI (mx_n T)), .int (nI (mx_m F)), .ref (mA 4), .ref (mA 5), .ref (mA 6), .ref (mA 7), .ref (mA 8), .ref (mA 9), .int jo, .ref (mA 10), .ref (mA 11)])), (mA 3, .inl (cI, 16, .inl pls)), (mA 4, .inl (cI, 60, .inl msg)), (mA 5, .inl (cI, 180, .inl at_)), (mA 11, .inl (cZ, 60, .inl sd))]) hD hS hA [0, 1, 2, 3, 4] rfl
          refine va_calli (va_runV (As := [.int (nI x)]) (rest := []) ⟨hx, hb, hml, hown, hts⟩ (m_standing l dC dI cI cJ cZ T F mA 0 jo isb pls msg at_ sd x H.size hw hpf hn hmt hx0) (cwV 1 hts (w0_goodV woX4_part wd_566 wd_563 wd_565 ws_14 wd_5) rfl rfl rfl (by decide +kernel) ⟨Nat.le_of_ble_eq_true rfl, Nat.le_of_ble_eq_true rfl⟩) ⟨fun a U g mk q => by obtain ⟨q0, q1, qP, qK, qD⟩ := q; exact ⟨q0, q1, qP, va_K.moved (u := U) (U := U.calling g mk a) (Vm.Alike.refl U.vm) qK, qD⟩, va_recv hK hP (ci := 4) (q0 := 0) rfl rfl, fun U hU hW => ⟨rfl, by rw [hU], by rw [hU]; exact hPc, va_K.moved hW.alike hK, hDc.weaken (fun _ _ _ _ => trivial)⟩⟩ rfl rfl hl.1 rfl (lv_room (Nat.le_of_ble_eq_true rfl)) dX4_part_55 ⟨Nat.zero_le _, Nat.zero_le _⟩) hS (fun q _ h => hFc q h) hFc (fun r5 u t8 H1 locs ht8 hvm hr5 hB hz1 hk1 hS => ?_)
          obtain ⟨sd2_1, rfl⟩ : ∃ z, z = u := ⟨_, rfl⟩
          obtain ⟨hP1, hK1, hD1⟩ := hB
          rw [ht8] at hP1
          try dsimp only at hr5
          obtain ⟨hP, hD⟩ := va_join (wr := []) (w1 := [(mA 0, .inr (4, [.int 0, .ref (mA 1), .ref (mA 2), .ref (mA 3), .int (nI (mx_n T)), .int (nI (mx_m F)), .ref (mA 4), .ref (mA 5), .ref (mA 6), .ref (mA 7), .ref (mA 8), .ref (mA 9), .int jo, .ref (mA 10), .ref (mA 11)])), (mA 3, .inl (cI, 16, .inl pls)), (mA 4, .inl (cI, 60, .inl msg)), (mA 5, .inl (cI, 180, .inl at_)), (mA 11, .inl (cZ, 60, .inl sd2_1))]) hP hD [0, 1, 2, 3, 4] [] rfl rfl (by decide) (by decide) hk1 hFc hP1 hD1
          have hP := hP.sub (ws' := [(mA 0, .inr (4, [.int 0, .ref (mA 1), .ref (mA 2), .ref (mA 3), .int (nI (mx_n T)), .int (nI (mx_m F)), .ref (mA 4), .ref (mA 5), .ref (mA 6), .ref (mA 7), .ref (mA 8), .ref (mA 9), .int jo, .ref (mA 10), .ref (mA 11)])), (mA 3, .inl (cI, 16, .inl pls)), (mA 4, .inl (cI, 60, .inl msg)), (mA 5, .inl (cI, 180, .inl at_)), (mA 11, .inl (cZ, 60, .inl sd2_1))]) [0, 1, 2, 3, 4] rfl
          have hD := hD.sub (ws' := [(mA 0, .inr (4, [.int 0, .ref (mA 1), .ref (mA 2), .ref (mA 3), .int (nI (mx_n T)), .int (nI (mx_m F)), .ref (mA 4), .ref (mA 5), .ref (mA 6), .ref (mA 7), .ref (mA 8), .ref (mA 9), .int jo, .ref (mA 10), .ref (mA 11)])), (mA 3, .inl (cI, 16, .inl pls)), (mA 4, .inl (cI, 60, .inl msg)), (mA 5, .inl (cI, 180, .inl at_)), (mA 11, .inl (cZ, 60, .inl sd2_1))]) [0, 1, 2, 3, 4] (by decide) rfl
          generalize H1 = H at hP hS ⊢
          refine lv_goto (tgt := 62) hx hb dX4_part_58 (by decide) ?_
          have hP9 := hP.sub (ws' := [(mA 0, .inr (4, [.int 0, .ref (mA 1), .ref (mA 2), .ref (mA 3), .int (nI (mx_n T)), .int (nI (mx_m F)), .ref (mA 4), .ref (mA 5), .ref (mA 6), .ref (mA 7), .ref (mA 8), .ref (mA 9), .int jo, .ref (mA 10), .ref (mA 11)])), (mA 3, .inl (cI, 16, .inl pls)), (mA 4, .inl (cI, 60, .inl msg)), (mA 5, .inl (cI, 180, .inl at_)), (mA 11, .inl (cZ, 60, .inl sd2_1))]) [0, 1, 2, 3, 4] rfl
          have hD9 := hD.sub (ws' := [(mA 0, .inr (4, [.int 0, .ref (mA 1), .ref (mA 2), .ref (mA 3), .int (nI (mx_n T)), .int (nI (mx_m F)), .ref (mA 4), .ref (mA 5), .ref (mA 6), .ref (mA 7), .ref (mA 8), .ref (mA 9), .int jo, .ref (mA 10), .ref (mA 11)])), (mA 3, .inl (cI, 16, .inl pls)), (mA 4, .inl (cI, 60, .inl msg)), (mA 5, .inl (cI, 180, .inl at_)), (mA 11, .inl (cZ, 60, .inl sd2_1))]) [0, 1, 2, 3, 4] (by decide) rfl
          exact W.iret (v := r5) hx hb hr (fun t9 ht9 hW9 => ⟨⟨r5, sd2_1, rfl, Or.inr ⟨x, hx0, rfl, by rw [if_neg d0, if_neg n1, if_neg n2, if_neg n3, if_pos d4, hr5]⟩, by rw [ht9]; exact hP9, va_K.moved hW9.alike hK, hD9⟩, hS.F ht9⟩) hS.2.2 dX4_part_62
      · refine lv_iload_n hx hb dX4_part_30 rfl (lv_at hl 2 rfl) ?_
        refine lv_iconst (v := 4) hx hb dX4_part_31 (by decide) ?_
        refine lv_icmp_ge (tgt := 48) hx hb dX4_part_32 (by decide) (fun d2 => ?_) (fun d2 => ?_)
        · obtain ⟨n1, n2, n3⟩ := w_no (Or.inr d2) d0
          refine lv_iload_n hx hb dX4_part_48 rfl (lv_at hl 2 rfl) ?_
          refine lv_iconst (v := 4) hx hb dX4_part_49 (by decide) ?_
          refine lv_icmp_ne (tgt := 61) hx hb dX4_part_50 (by decide) (fun d4 => ?_) (fun d4 => ?_)
          · refine lv_iconst (v := (-1)) hx hb dX4_part_61 (by decide) ?_
            have hP9 := hP.sub (ws' := [(mA 0, .inr (4, [.int 0, .ref (mA 1), .ref (mA 2), .ref (mA 3), .int (nI (mx_n T)), .int (nI (mx_m F)), .ref (mA 4), .ref (mA 5), .ref (mA 6), .ref (mA 7), .ref (mA 8), .ref (mA 9), .int jo, .ref (mA 10), .ref (mA 11)])), (mA 3, .inl (cI, 16, .inl pls)), (mA 4, .inl (cI, 60, .inl msg)), (mA 5, .inl (cI, 180, .inl at_)), (mA 11, .inl (cZ, 60, .inl sd))]) [0, 1, 2, 3, 4] rfl
            have hD9 := hD.sub (ws' := [(mA 0, .inr (4, [.int 0, .ref (mA 1), .ref (mA 2), .ref (mA 3), .int (nI (mx_n T)), .int (nI (mx_m F)), .ref (mA 4), .ref (mA 5), .ref (mA 6), .ref (mA 7), .ref (mA 8), .ref (mA 9), .int jo, .ref (mA 10), .ref (mA 11)])), (mA 3, .inl (cI, 16, .inl pls)), (mA 4, .inl (cI, 60, .inl msg)), (mA 5, .inl (cI, 180, .inl at_)), (mA 11, .inl (cZ, 60, .inl sd))]) [0, 1, 2, 3, 4] (by decide) rfl
            exact W.iret (v := (-1)) hx hb hr (fun t9 ht9 hW9 => ⟨⟨(-1), sd, rfl, Or.inr ⟨x, hx0, rfl, by rw [if_neg d0, if_neg n1, if_neg n2, if_neg n3, if_neg d4]⟩, by rw [ht9]; exact hP9, va_K.moved hW9.alike hK, hD9⟩, hS.F ht9⟩) hS.2.2 dX4_part_62
          · refine lv_aload_n hx hb dX4_part_53 rfl (lv_at hl 0 rfl) ?_
            refine lv_iload_n hx hb dX4_part_54 rfl (lv_at hl 1 rfl) ?_
            have hPc := hP.sub (ws' := [(mA 0, .inr (4, [.int 0, .ref (mA 1), .ref (mA 2), .ref (mA 3), .int (nI (mx_n T)), .int (nI (mx_m F)), .ref (mA 4), .ref (mA 5), .ref (mA 6), .ref (mA 7), .ref (mA 8), .ref (mA 9), .int jo, .ref (mA 10), .ref (mA 11)])), (mA 3, .inl (cI, 16, .inl pls)), (mA 4, .inl (cI, 60, .inl msg)), (mA 5, .inl (cI, 180, .inl at_)), (mA 11, .inl (cZ, 60, .inl sd))]) [0, 1, 2, 3, 4] rfl
            have hDc := hD.sub (ws' := [(mA 0, .inr (4, [.int 0, .ref (mA 1), .ref (mA 2), .ref (mA 3), .int (nI (mx_n T)), .int (nI (mx_m F)), .ref (mA 4), .ref (mA 5), .ref (mA 6), .ref (mA 7), .ref (mA 8), .ref (mA 9), .int jo, .ref (mA 10), .ref (mA 11)])), (mA 3, .inl (cI, 16, .inl pls)), (mA 4, .inl (cI, 60, .inl msg)), (mA 5, .inl (cI, 180, .inl at_)), (mA 11, .inl (cZ, 60, .inl sd))]) [0, 1, 2, 3, 4] (by decide) rfl
            have hFc := va_free (wc := [(mA 0, .inr (4, [.int 0, .ref (mA 1), .ref (mA 2), .ref (mA 3), .int (nI (mx_n T)), .int (nI (mx_m F)), .ref (mA 4), .ref (mA 5), .ref (mA 6), .ref (mA 7), .ref (mA 8), .ref (mA 9), .int jo, .ref (mA 10), .ref (mA 11)])), (mA 3, .inl (cI, 16, .inl pls)), (mA 4, .inl (cI, 60, .inl msg)), (mA 5, .inl (cI, 180, .inl at_)), (mA 11, .inl (cZ, 60, .inl sd))]) hD hS hA [0, 1, 2, 3, 4] rfl
            refine va_calli (va_runV (As := [.int (nI x)]) (rest := []) ⟨hx, hb, hml, hown, hts⟩ (m_standing l dC dI cI cJ cZ T F mA 0 jo isb pls msg at_ sd x H.size hw hpf hn hmt hx0) (cwV 1 hts (w0_goodV woX4_part wd_566 wd_563 wd_565 ws_14 wd_5) rfl rfl rfl (by decide +kernel) ⟨Nat.le_of_ble_eq_true rfl, Nat.le_of_ble_eq_true rfl⟩) ⟨fun a U g mk q => by obtain ⟨q0, q1, qP, qK, qD⟩ := q; exact ⟨q0, q1, qP, va_K.moved (u := U) (U := U.calling g mk a) (Vm.Alike.refl U.vm) qK, qD⟩, va_recv hK hP (ci := 4) (q0 := 0) rfl rfl, fun U hU hW => ⟨rfl, by rw [hU], by rw [hU]; exact hPc, va_K.moved hW.alike hK, hDc.weaken (fun _ _ _ _ => trivial)⟩⟩ rfl rfl hl.1 rfl (lv_room (Nat.le_of_ble_eq_true rfl)) dX4_part_55 ⟨Nat.zero_le _, Nat.zero_le _⟩) hS (fun q _ h => hFc q h) hFc (fun r5 u t8 H1 locs ht8 hvm hr5 hB hz1 hk1 hS => ?_)
            obtain ⟨sd2_2, rfl⟩ : ∃ z, z = u := ⟨_, rfl⟩
            obtain ⟨hP1, hK1, hD1⟩ := hB
            rw [ht8] at hP1
            try dsimp only at hr5
            obtain ⟨hP, hD⟩ := va_join (wr := []) (w1 := [(mA 0, .inr (4, [.int 0, .ref (mA 1), .ref (mA 2), .ref (mA 3), .int (nI (mx_n T)), .int (nI (mx_m F)), .ref (mA 4), .ref (mA 5), .ref (mA 6), .ref (mA 7), .ref (mA 8), .ref (mA 9), .int jo, .ref (mA 10), .ref (mA 11)])), (mA 3, .inl (cI, 16, .inl pls)), (mA 4, .inl (cI, 60, .inl msg)), (mA 5, .inl (cI, 180, .inl at_)), (mA 11, .inl (cZ, 60, .inl sd2_2))]) hP hD [0, 1, 2, 3, 4] [] rfl rfl (by decide) (by decide) hk1 hFc hP1 hD1
            have hP := hP.sub (ws' := [(mA 0, .inr (4, [.int 0, .ref (mA 1), .ref (mA 2), .ref (mA 3), .int (nI (mx_n T)), .int (nI (mx_m F)), .ref (mA 4), .ref (mA 5), .ref (mA 6), .ref (mA 7), .ref (mA 8), .ref (mA 9), .int jo, .ref (mA 10), .ref (mA 11)])), (mA 3, .inl (cI, 16, .inl pls)), (mA 4, .inl (cI, 60, .inl msg)), (mA 5, .inl (cI, 180, .inl at_)), (mA 11, .inl (cZ, 60, .inl sd2_2))]) [0, 1, 2, 3, 4] rfl
            have hD := hD.sub (ws' := [(mA 0, .inr (4, [.int 0, .ref (mA 1), .ref (mA 2), .ref (mA 3), .int (nI (mx_n T)), .int (nI (mx_m F)), .ref (mA 4), .ref (mA 5), .ref (mA 6), .ref (mA 7), .ref (mA 8), .ref (mA 9), .int jo, .ref (mA 10), .ref (mA 11)])), (mA 3, .inl (cI, 16, .inl pls)), (mA 4, .inl (cI, 60, .inl msg)), (mA 5, .inl (cI, 180, .inl at_)), (mA 11, .inl (cZ, 60, .inl sd2_2))]) [0, 1, 2, 3, 4] (by decide) rfl
            generalize H1 = H at hP hS ⊢
            refine lv_goto (tgt := 62) hx hb dX4_part_58 (by decide) ?_
            have hP9 := hP.sub (ws' := [(mA 0, .inr (4, [.int 0, .ref (mA 1), .ref (mA 2), .ref (mA 3), .int (nI (mx_n T)), .int (nI (mx_m F)), .ref (mA 4), .ref (mA 5), .ref (mA 6), .ref (mA 7), .ref (mA 8), .ref (mA 9), .int jo, .ref (mA 10), .ref (mA 11)])), (mA 3, .inl (cI, 16, .inl pls)), (mA 4, .inl (cI, 60, .inl msg)), (mA 5, .inl (cI, 180, .inl at_)), (mA 11, .inl (cZ, 60, .inl sd2_2))]) [0, 1, 2, 3, 4] rfl
            have hD9 := hD.sub (ws' := [(mA 0, .inr (4, [.int 0, .ref (mA 1), .ref (mA 2), .ref (mA 3), .int (nI (mx_n T)), .int (nI (mx_m F)), .ref (mA 4), .ref (mA 5), .ref (mA 6), .ref (mA 7), .ref (mA 8), .ref (mA 9), .int jo, .ref (mA 10), .ref (mA 11)])), (mA 3, .inl (cI, 16, .inl pls)), (mA 4, .inl (cI, 60, .inl msg)), (mA 5, .inl (cI, 180, .inl at_)), (mA 11, .inl (cZ, 60, .inl sd2_2))]) [0, 1, 2, 3, 4] (by decide) rfl
            exact W.iret (v := r5) hx hb hr (fun t9 ht9 hW9 => ⟨⟨r5, sd2_2, rfl, Or.inr ⟨x, hx0, rfl, by rw [if_neg d0, if_neg n1, if_neg n2, if_neg n3, if_pos d4, hr5]⟩, by rw [ht9]; exact hP9, va_K.moved hW9.alike hK, hD9⟩, hS.F ht9⟩) hS.2.2 dX4_part_62
        · rcases w13 d1 d2 with rfl | rfl | rfl
          · refine lv_aload_n hx hb dX4_part_35 rfl (lv_at hl 0 rfl) ?_
            refine va_get (D := (dC, dI)) (ci := 4) (v := .ref (mA 5)) (C := RX4) (T := TX4) (N := 15) hx hb hts (fun w h => woX4_part w (inX4 w h)) hown hK hP 0 rfl rfl 7 (by decide) (hts _ (woX4_part _ wd_500)) (fun _ h9 => h9) rfl dX4_part_36 ?_
            refine lv_iconst (v := 3) hx hb dX4_part_39 (by decide) ?_
            refine lv_iload_n hx hb dX4_part_40 rfl (lv_at hl 1 rfl) ?_
            refine lv_imul hx hb dX4_part_41 ?_
            refine lv_iload_n hx hb dX4_part_42 rfl (lv_at hl 2 rfl) ?_
            refine lv_iadd hx hb dX4_part_43 ?_
            refine lv_iconst (v := 1) hx hb dX4_part_44 (by decide) ?_
            refine lv_isub hx hb dX4_part_45 ?_
            rw [show (3 : Int32) * nI x + 1 - 1 = nI (3 * x + 0) from (congrArg (· - 1) (ix3 x 1)).trans (nI_pred (3 * x + 0))]
            refine va_iald hx hb hK hP 3 0 rfl rfl (vp_in_nI (by omega) (by omega)) dX4_part_46 ?_
            rw [show (nI (3 * x + 0)).toNatClampNeg = (3 * x + 0) from nI_clamp (by omega)]
            rw [hmt.2 x 0 hx0 (by omega)]
            have hP9 := hP.sub (ws' := [(mA 0, .inr (4, [.int 0, .ref (mA 1), .ref (mA 2), .ref (mA 3), .int (nI (mx_n T)), .int (nI (mx_m F)), .ref (mA 4), .ref (mA 5), .ref (mA 6), .ref (mA 7), .ref (mA 8), .ref (mA 9), .int jo, .ref (mA 10), .ref (mA 11)])), (mA 3, .inl (cI, 16, .inl pls)), (mA 4, .inl (cI, 60, .inl msg)), (mA 5, .inl (cI, 180, .inl at_)), (mA 11, .inl (cZ, 60, .inl sd))]) [0, 1, 2, 3, 4] rfl
            have hD9 := hD.sub (ws' := [(mA 0, .inr (4, [.int 0, .ref (mA 1), .ref (mA 2), .ref (mA 3), .int (nI (mx_n T)), .int (nI (mx_m F)), .ref (mA 4), .ref (mA 5), .ref (mA 6), .ref (mA 7), .ref (mA 8), .ref (mA 9), .int jo, .ref (mA 10), .ref (mA 11)])), (mA 3, .inl (cI, 16, .inl pls)), (mA 4, .inl (cI, 60, .inl msg)), (mA 5, .inl (cI, 180, .inl at_)), (mA 11, .inl (cZ, 60, .inl sd))]) [0, 1, 2, 3, 4] (by decide) rfl
            exact W.iret (v := mx_enc (mx_pl T 0 x)) hx hb hr (fun t9 ht9 hW9 => ⟨⟨mx_enc (mx_pl T 0 x), sd, rfl, Or.inr ⟨x, hx0, rfl, rfl⟩, by rw [ht9]; exact hP9, va_K.moved hW9.alike hK, hD9⟩, hS.F ht9⟩) hS.2.2 dX4_part_47
          · refine lv_aload_n hx hb dX4_part_35 rfl (lv_at hl 0 rfl) ?_
            refine va_get (D := (dC, dI)) (ci := 4) (v := .ref (mA 5)) (C := RX4) (T := TX4) (N := 15) hx hb hts (fun w h => woX4_part w (inX4 w h)) hown hK hP 0 rfl rfl 7 (by decide) (hts _ (woX4_part _ wd_500)) (fun _ h9 => h9) rfl dX4_part_36 ?_
            refine lv_iconst (v := 3) hx hb dX4_part_39 (by decide) ?_
            refine lv_iload_n hx hb dX4_part_40 rfl (lv_at hl 1 rfl) ?_
            refine lv_imul hx hb dX4_part_41 ?_
            refine lv_iload_n hx hb dX4_part_42 rfl (lv_at hl 2 rfl) ?_
            refine lv_iadd hx hb dX4_part_43 ?_
            refine lv_iconst (v := 1) hx hb dX4_part_44 (by decide) ?_
            refine lv_isub hx hb dX4_part_45 ?_
            rw [show (3 : Int32) * nI x + 2 - 1 = nI (3 * x + 1) from (congrArg (· - 1) (ix3 x 2)).trans (nI_pred (3 * x + 1))]
            refine va_iald hx hb hK hP 3 0 rfl rfl (vp_in_nI (by omega) (by omega)) dX4_part_46 ?_
            rw [show (nI (3 * x + 1)).toNatClampNeg = (3 * x + 1) from nI_clamp (by omega)]
            rw [hmt.2 x 1 hx0 (by omega)]
            have hP9 := hP.sub (ws' := [(mA 0, .inr (4, [.int 0, .ref (mA 1), .ref (mA 2), .ref (mA 3), .int (nI (mx_n T)), .int (nI (mx_m F)), .ref (mA 4), .ref (mA 5), .ref (mA 6), .ref (mA 7), .ref (mA 8), .ref (mA 9), .int jo, .ref (mA 10), .ref (mA 11)])), (mA 3, .inl (cI, 16, .inl pls)), (mA 4, .inl (cI, 60, .inl msg)), (mA 5, .inl (cI, 180, .inl at_)), (mA 11, .inl (cZ, 60, .inl sd))]) [0, 1, 2, 3, 4] rfl
            have hD9 := hD.sub (ws' := [(mA 0, .inr (4, [.int 0, .ref (mA 1), .ref (mA 2), .ref (mA 3), .int (nI (mx_n T)), .int (nI (mx_m F)), .ref (mA 4), .ref (mA 5), .ref (mA 6), .ref (mA 7), .ref (mA 8), .ref (mA 9), .int jo, .ref (mA 10), .ref (mA 11)])), (mA 3, .inl (cI, 16, .inl pls)), (mA 4, .inl (cI, 60, .inl msg)), (mA 5, .inl (cI, 180, .inl at_)), (mA 11, .inl (cZ, 60, .inl sd))]) [0, 1, 2, 3, 4] (by decide) rfl
            exact W.iret (v := mx_enc (mx_pl T 1 x)) hx hb hr (fun t9 ht9 hW9 => ⟨⟨mx_enc (mx_pl T 1 x), sd, rfl, Or.inr ⟨x, hx0, rfl, rfl⟩, by rw [ht9]; exact hP9, va_K.moved hW9.alike hK, hD9⟩, hS.F ht9⟩) hS.2.2 dX4_part_47
          · refine lv_aload_n hx hb dX4_part_35 rfl (lv_at hl 0 rfl) ?_
            refine va_get (D := (dC, dI)) (ci := 4) (v := .ref (mA 5)) (C := RX4) (T := TX4) (N := 15) hx hb hts (fun w h => woX4_part w (inX4 w h)) hown hK hP 0 rfl rfl 7 (by decide) (hts _ (woX4_part _ wd_500)) (fun _ h9 => h9) rfl dX4_part_36 ?_
            refine lv_iconst (v := 3) hx hb dX4_part_39 (by decide) ?_
            refine lv_iload_n hx hb dX4_part_40 rfl (lv_at hl 1 rfl) ?_
            refine lv_imul hx hb dX4_part_41 ?_
            refine lv_iload_n hx hb dX4_part_42 rfl (lv_at hl 2 rfl) ?_
            refine lv_iadd hx hb dX4_part_43 ?_
            refine lv_iconst (v := 1) hx hb dX4_part_44 (by decide) ?_
            refine lv_isub hx hb dX4_part_45 ?_
            rw [show (3 : Int32) * nI x + 3 - 1 = nI (3 * x + 2) from (congrArg (· - 1) (ix3 x 3)).trans (nI_pred (3 * x + 2))]
            refine va_iald hx hb hK hP 3 0 rfl rfl (vp_in_nI (by omega) (by omega)) dX4_part_46 ?_
            rw [show (nI (3 * x + 2)).toNatClampNeg = (3 * x + 2) from nI_clamp (by omega)]
            rw [hmt.2 x 2 hx0 (by omega)]
            have hP9 := hP.sub (ws' := [(mA 0, .inr (4, [.int 0, .ref (mA 1), .ref (mA 2), .ref (mA 3), .int (nI (mx_n T)), .int (nI (mx_m F)), .ref (mA 4), .ref (mA 5), .ref (mA 6), .ref (mA 7), .ref (mA 8), .ref (mA 9), .int jo, .ref (mA 10), .ref (mA 11)])), (mA 3, .inl (cI, 16, .inl pls)), (mA 4, .inl (cI, 60, .inl msg)), (mA 5, .inl (cI, 180, .inl at_)), (mA 11, .inl (cZ, 60, .inl sd))]) [0, 1, 2, 3, 4] rfl
            have hD9 := hD.sub (ws' := [(mA 0, .inr (4, [.int 0, .ref (mA 1), .ref (mA 2), .ref (mA 3), .int (nI (mx_n T)), .int (nI (mx_m F)), .ref (mA 4), .ref (mA 5), .ref (mA 6), .ref (mA 7), .ref (mA 8), .ref (mA 9), .int jo, .ref (mA 10), .ref (mA 11)])), (mA 3, .inl (cI, 16, .inl pls)), (mA 4, .inl (cI, 60, .inl msg)), (mA 5, .inl (cI, 180, .inl at_)), (mA 11, .inl (cZ, 60, .inl sd))]) [0, 1, 2, 3, 4] (by decide) rfl
            exact W.iret (v := mx_enc (mx_pl T 2 x)) hx hb hr (fun t9 ht9 hW9 => ⟨⟨mx_enc (mx_pl T 2 x), sd, rfl, Or.inr ⟨x, hx0, rfl, rfl⟩, by rw [ht9]; exact hP9, va_K.moved hW9.alike hK, hD9⟩, hS.F ht9⟩) hS.2.2 dX4_part_47
    · refine lv_aload_n hx hb dX4_part_19 rfl (lv_at hl 0 rfl) ?_
      refine va_get (D := (dC, dI)) (ci := 4) (v := .ref (mA 4)) (C := RX4) (T := TX4) (N := 15) hx hb hts (fun w h => woX4_part w (inX4 w h)) hown hK hP 0 rfl rfl 6 (by decide) (hts _ (woX4_part _ wd_499)) (fun _ h9 => h9) rfl dX4_part_20 ?_
      refine lv_iload_n hx hb dX4_part_23 rfl (lv_at hl 1 rfl) ?_
      refine va_iald hx hb hK hP 2 0 rfl rfl (vp_in_nI (by omega) (by omega)) dX4_part_24 ?_
      rw [show (nI x).toNatClampNeg = x from nI_clamp (by omega)]
      rw [e1]
      have hP9 := hP.sub (ws' := [(mA 0, .inr (4, [.int 0, .ref (mA 1), .ref (mA 2), .ref (mA 3), .int (nI (mx_n T)), .int (nI (mx_m F)), .ref (mA 4), .ref (mA 5), .ref (mA 6), .ref (mA 7), .ref (mA 8), .ref (mA 9), .int jo, .ref (mA 10), .ref (mA 11)])), (mA 3, .inl (cI, 16, .inl pls)), (mA 4, .inl (cI, 60, .inl msg)), (mA 5, .inl (cI, 180, .inl at_)), (mA 11, .inl (cZ, 60, .inl sd))]) [0, 1, 2, 3, 4] rfl
      have hD9 := hD.sub (ws' := [(mA 0, .inr (4, [.int 0, .ref (mA 1), .ref (mA 2), .ref (mA 3), .int (nI (mx_n T)), .int (nI (mx_m F)), .ref (mA 4), .ref (mA 5), .ref (mA 6), .ref (mA 7), .ref (mA 8), .ref (mA 9), .int jo, .ref (mA 10), .ref (mA 11)])), (mA 3, .inl (cI, 16, .inl pls)), (mA 4, .inl (cI, 60, .inl msg)), (mA 5, .inl (cI, 180, .inl at_)), (mA 11, .inl (cZ, 60, .inl sd))]) [0, 1, 2, 3, 4] (by decide) rfl
      exact W.iret (v := nI (mx_sg T x)) hx hb hr (fun t9 ht9 hW9 => ⟨⟨nI (mx_sg T x), sd, rfl, Or.inr ⟨x, hx0, rfl, by rw [if_pos d0]⟩, by rw [ht9]; exact hP9, va_K.moved hW9.alike hK, hD9⟩, hS.F ht9⟩) hS.2.2 dX4_part_25
  · refine lv_iconst (v := (-1)) hx hb dX4_part_13 (by decide) ?_
    have hP9 := hP.sub (ws' := [(mA 0, .inr (4, [.int 0, .ref (mA 1), .ref (mA 2), .ref (mA 3), .int (nI (mx_n T)), .int (nI (mx_m F)), .ref (mA 4), .ref (mA 5), .ref (mA 6), .ref (mA 7), .ref (mA 8), .ref (mA 9), .int jo, .ref (mA 10), .ref (mA 11)])), (mA 3, .inl (cI, 16, .inl pls)), (mA 4, .inl (cI, 60, .inl msg)), (mA 5, .inl (cI, 180, .inl at_)), (mA 11, .inl (cZ, 60, .inl sd))]) [0, 1, 2, 3, 4] rfl
    have hD9 := hD.sub (ws' := [(mA 0, .inr (4, [.int 0, .ref (mA 1), .ref (mA 2), .ref (mA 3), .int (nI (mx_n T)), .int (nI (mx_m F)), .ref (mA 4), .ref (mA 5), .ref (mA 6), .ref (mA 7), .ref (mA 8), .ref (mA 9), .int jo, .ref (mA 10), .ref (mA 11)])), (mA 3, .inl (cI, 16, .inl pls)), (mA 4, .inl (cI, 60, .inl msg)), (mA 5, .inl (cI, 180, .inl at_)), (mA 11, .inl (cZ, 60, .inl sd))]) [0, 1, 2, 3, 4] (by decide) rfl
    exact W.iret (v := (-1)) hx hb hr (fun t9 ht9 hW9 => ⟨⟨(-1), sd, rfl, Or.inl ⟨zb_f hr1 c1, rfl⟩, by rw [ht9]; exact hP9, va_K.moved hW9.alike hK, hD9⟩, hS.F ht9⟩) hS.2.2 dX4_part_14

set_option maxHeartbeats 4000000 in
set_option maxRecDepth 100000 in
theorem ab_l {p : Program} {l : Launch} {e : Env} {s : State} {m : MethodId} {args : Array Value} {below : List Frame} {meth : Method} {c : Code} {Q : State → Prop} (hx : p.tables.exec = Jvm.exec) (hb : c.code = cX4_about) (hown : s.vm.findClass RX4 = some m.cls) (hts : ∀ w ∈ wsX4_about, w.before args s = true) {dC : Nat → ClassId} {dI : Nat → Nat → Nat} {cI cJ cZ : ClassId} (hK : va_K (dC, dI) vwCl [(cI, .int), (cJ, .long), (cZ, .boolean)] s) {T : mx_T} {F : mx_F} {mA : Nat → Nat} {jo : Int32} {isu : Nat → Int32} {w0 : Int32} (hU : md_U T isu) {A : Nat → Prop} {H0 : Heap} (hA : ∀ q : Nat, H0.size ≤ q → A q) (hml : c.maxLocals = 4) (kk : ∀ (us : Int32) (H : Heap) (locs : List Loc) (ls : Array Slot), (us = nI (mx_cnt (us_b T) 16)) → va_P (dC, dI) vwCl [(mA 0, .inr (4, [.int 0, .ref (mA 1), .ref (mA 2), .ref (mA 3), .int (nI (mx_n T)), .int (nI (mx_m F)), .ref (mA 4), .ref (mA 5), .ref (mA 6), .ref (mA 7), .ref (mA 8), .ref (mA 9), .int jo, .ref (mA 10), .ref (mA 11)])), (mA 2, .inl (cZ, 16, .inl isu))] H → va_D A [(mA 0, .inr (4, [.int 0, .ref (mA 1), .ref (mA 2), .ref (mA 3), .int (nI (mx_n T)), .int (nI (mx_m F)), .ref (mA 4), .ref (mA 5), .ref (mA 6), .ref (mA 7), .ref (mA 8), .ref (mA 9), .int jo, .ref (mA 10), .ref (mA 11)])), (mA 2, .inl (cZ, 16, .inl isu))] → va_S A H0 H locs → lv_has ls 4 [(0, .ref (mA 0)), (1, .int w0), (2, .int us)] → W p l e ({ frames := 0, cells := 0, slots := 0, locals := 0 }) s m args below meth c H locs 0 0 Q (F0 m 38 ls [])) : ∀ (d : Nat) (k : Nat) (us : Int32) (H : Heap) (locs : List Loc) (ls : Array Slot), (k + d = 16) → (us = nI (mx_cnt (us_b T) k)) → va_P (dC, dI) vwCl [(mA 0, .inr (4, [.int 0, .ref (mA 1), .ref (mA 2), .ref (mA 3), .int (nI (mx_n T)), .int (nI (mx_m F)), .ref (mA 4), .ref (mA 5), .ref (mA 6), .ref (mA 7), .ref (mA 8), .ref (mA 9), .int jo, .ref (mA 10), .ref (mA 11)])), (mA 2, .inl (cZ, 16, .inl isu))] H → va_D A [(mA 0, .inr (4, [.int 0, .ref (mA 1), .ref (mA 2), .ref (mA 3), .int (nI (mx_n T)), .int (nI (mx_m F)), .ref (mA 4), .ref (mA 5), .ref (mA 6), .ref (mA 7), .ref (mA 8), .ref (mA 9), .int jo, .ref (mA 10), .ref (mA 11)])), (mA 2, .inl (cZ, 16, .inl isu))] → va_S A H0 H locs → lv_has ls 4 [(0, .ref (mA 0)), (1, .int w0), (2, .int us), (3, .int (nI k))] → W p l e ({ frames := 0, cells := 0, slots := 0, locals := 0 }) s m args below meth c H locs 0 0 Q (F0 m 9 ls []) := by
  intro d
  induction d with
  | zero =>
    intro k us H locs ls hd hI hP hD hS hl
    refine lv_iload_n hx hb dX4_about_9 rfl (lv_at hl 3 rfl) ?_
    refine lv_bipush (v := 16) hx hb dX4_about_10 (by decide) ?_
    refine lv_icmp_ge (tgt := 38) hx hb dX4_about_12 (by decide) (fun c1 => ?_) (fun c1 => ?_)
    · have e : k = 16 := by omega
      rw [e] at hI
      refine kk us _ _ _ hI hP hD hS (lv_sub hl [0, 1, 2] rfl)
    · exact absurd (nI_le (a := 16) (b := k) (by omega) (by omega)) c1
  | succ d ih =>
    intro k us H locs ls hd hI hP hD hS hl
    have hk0 : k < 16 := by omega
    refine lv_iload_n hx hb dX4_about_9 rfl (lv_at hl 3 rfl) ?_
    refine lv_bipush (v := 16) hx hb dX4_about_10 (by decide) ?_
    refine lv_icmp_ge (tgt := 38) hx hb dX4_about_12 (by decide) (fun c1 => ?_) (fun c1 => ?_)
    · exact absurd c1 (nI_ge (b := 16) hk0 (by omega))
    · refine lv_iload_n hx hb dX4_about_15 rfl (lv_at hl 2 rfl) ?_
      refine lv_aload_n hx hb dX4_about_16 rfl (lv_at hl 0 rfl) ?_
      refine va_get (D := (dC, dI)) (ci := 4) (v := .ref (mA 2)) (C := RX4) (T := TX4) (N := 15) hx hb hts (fun w h => woX4_about w (inX4 w h)) hown hK hP 0 rfl rfl 2 (by decide) (hts _ (woX4_about _ wd_495)) (fun _ h9 => h9) rfl dX4_about_17 ?_
      refine lv_iload_n hx hb dX4_about_20 rfl (lv_at hl 3 rfl) ?_
      refine va_zald hx hb hK hP 1 2 rfl rfl (vp_in_nI (by omega) (by omega)) dX4_about_21 ?_
      rw [show (nI k).toNatClampNeg = k from nI_clamp (by omega)]
      refine lv_if_eq (tgt := 29) hx hb dX4_about_22 (by decide) (fun c2 => ?_) (fun c2 => ?_)
      · have hu : us_b T k = false := ts_nt (fun z => zb_f (hU k hk0) c2 (us_bt.mp z))
        refine lv_iconst (v := 0) hx hb dX4_about_29 (by decide) ?_
        refine lv_iadd hx hb dX4_about_30 ?_
        refine lv_topi (fun uv_1 euv_1 => ?_)
        refine lv_istore_n (lv' := [(2, .int uv_1), (0, .ref (mA 0)), (1, .int w0), (3, .int (nI k))]) hx hb dX4_about_31 rfl hl (by decide) rfl (fun ls hl => ?_)
        obtain ⟨y_2, ey_2⟩ : ∃ y9 : Int32, y9 = (nI k) + 1 := ⟨_, rfl⟩
        refine lv_iinc (v := y_2) (lv' := [(3, .int y_2), (2, .int uv_1), (0, .ref (mA 0)), (1, .int w0)]) hx hb dX4_about_32 hl (k := 3) rfl (by rw [ey_2]; rfl) (by decide) rfl (fun ls hl => ?_)
        refine lv_goto (tgt := 9) hx hb dX4_about_35 (by decide) ?_
        rw [ey_2, nI_1] at hl
        refine ih (k + 1) uv_1 _ _ _ (by omega) (by rw [euv_1, hI, mx_cnt_s, hu]; exact nI_add _ 0) hP hD hS (lv_sub hl [2, 3, 1, 0] rfl)
      · have hu : us_b T k = true := us_bt.mpr (zb_t (hU k hk0) c2)
        refine lv_iconst (v := 1) hx hb dX4_about_25 (by decide) ?_
        refine lv_goto (tgt := 30) hx hb dX4_about_26 (by decide) ?_
        refine lv_iadd hx hb dX4_about_30 ?_
        refine lv_topi (fun uv_3 euv_3 => ?_)
        refine lv_istore_n (lv' := [(2, .int uv_3), (0, .ref (mA 0)), (1, .int w0), (3, .int (nI k))]) hx hb dX4_about_31 rfl hl (by decide) rfl (fun ls hl => ?_)
        obtain ⟨y_4, ey_4⟩ : ∃ y9 : Int32, y9 = (nI k) + 1 := ⟨_, rfl⟩
        refine lv_iinc (v := y_4) (lv' := [(3, .int y_4), (2, .int uv_3), (0, .ref (mA 0)), (1, .int w0)]) hx hb dX4_about_32 hl (k := 3) rfl (by rw [ey_4]; rfl) (by decide) rfl (fun ls hl => ?_)
        refine lv_goto (tgt := 9) hx hb dX4_about_35 (by decide) ?_
        rw [ey_4, nI_1] at hl
        refine ih (k + 1) uv_3 _ _ _ (by omega) (by rw [euv_3, hI, mx_cnt_s, hu]; exact nI_add _ 1) hP hD hS (lv_sub hl [2, 3, 1, 0] rfl)

set_option maxHeartbeats 4000000 in
set_option maxRecDepth 100000 in
/-- the reference: about -/
theorem m_about (l : Launch) (dC : Nat → ClassId) (dI : Nat → Nat → Nat) (cI cJ cZ : ClassId) (T : mx_T) (F : mx_F) (mA : Nat → Nat) (th : Int32) (jo : Int32) (isu : Nat → Int32) (w0 : Int32) (sz : Nat) (hU : md_U T isu) : Met l yX4_about wsX4_about ({ frames := 0, cells := 0, slots := 0, locals := 0 }) (va_Pc [.ref (mA 0), .int w0] (fun U => U.heap.size = sz ∧ va_P (dC, dI) vwCl [(mA 0, .inr (4, [.int th, .ref (mA 1), .ref (mA 2), .ref (mA 3), .int (nI (mx_n T)), .int (nI (mx_m F)), .ref (mA 4), .ref (mA 5), .ref (mA 6), .ref (mA 7), .ref (mA 8), .ref (mA 9), .int jo, .ref (mA 10), .ref (mA 11)])), (mA 2, .inl (cZ, 16, .inl isu))] U.heap ∧ va_K (dC, dI) vwCl [(cI, .int), (cJ, .long), (cZ, .boolean)] U ∧ va_D (fun _ => True) [(mA 0, .inr (4, [.int th, .ref (mA 1), .ref (mA 2), .ref (mA 3), .int (nI (mx_n T)), .int (nI (mx_m F)), .ref (mA 4), .ref (mA 5), .ref (mA 6), .ref (mA 7), .ref (mA 8), .ref (mA 9), .int jo, .ref (mA 10), .ref (mA 11)])), (mA 2, .inl (cZ, 16, .inl isu))])) (va_Qi (fun r u => ab_P T F w0 r) (fun (u : Unit) t7 => match u with | _ => va_P (dC, dI) vwCl [(mA 0, .inr (4, [.int 0, .ref (mA 1), .ref (mA 2), .ref (mA 3), .int (nI (mx_n T)), .int (nI (mx_m F)), .ref (mA 4), .ref (mA 5), .ref (mA 6), .ref (mA 7), .ref (mA 8), .ref (mA 9), .int jo, .ref (mA 10), .ref (mA 11)])), (mA 2, .inl (cZ, 16, .inl isu))] t7.heap ∧ va_K (dC, dI) vwCl [(cI, .int), (cJ, .long), (cZ, .boolean)] t7 ∧ va_D (va_A [(mA 0, .inr (4, [.int th, .ref (mA 1), .ref (mA 2), .ref (mA 3), .int (nI (mx_n T)), .int (nI (mx_m F)), .ref (mA 4), .ref (mA 5), .ref (mA 6), .ref (mA 7), .ref (mA 8), .ref (mA 9), .int jo, .ref (mA 10), .ref (mA 11)])), (mA 2, .inl (cZ, 16, .inl isu))] sz) [(mA 0, .inr (4, [.int 0, .ref (mA 1), .ref (mA 2), .ref (mA 3), .int (nI (mx_n T)), .int (nI (mx_m F)), .ref (mA 4), .ref (mA 5), .ref (mA 6), .ref (mA 7), .ref (mA 8), .ref (mA 9), .int jo, .ref (mA 10), .ref (mA 11)])), (mA 2, .inl (cZ, 16, .inl isu))]) (va_A [(mA 0, .inr (4, [.int th, .ref (mA 1), .ref (mA 2), .ref (mA 3), .int (nI (mx_n T)), .int (nI (mx_m F)), .ref (mA 4), .ref (mA 5), .ref (mA 6), .ref (mA 7), .ref (mA 8), .ref (mA 9), .int jo, .ref (mA 10), .ref (mA 11)])), (mA 2, .inl (cZ, 16, .inl isu))] sz)) 0 0 (va_A [(mA 0, .inr (4, [.int th, .ref (mA 1), .ref (mA 2), .ref (mA 3), .int (nI (mx_n T)), .int (nI (mx_m F)), .ref (mA 4), .ref (mA 5), .ref (mA 6), .ref (mA 7), .ref (mA 8), .ref (mA 9), .int jo, .ref (mA 10), .ref (mA 11)])), (mA 2, .inl (cZ, 16, .inl isu))] sz) := by
  refine Met.ofW (cc := cX4_about) (maxL := 4) (ret := (some .int)) (by decide) rfl ?_
  intro p e s m args below meth c s₁ B hml hv
  obtain ⟨rfl, hsz, hP, hK, hD0⟩ := hv
  have hx := B.exec
  have hb := B.bytes
  have hr := B.returns
  have hts := atoms_spec (ws := wsX4_about) B.pre
  have hown : s.vm.findClass RX4 = some m.cls := findClass_of_methodNamed B.named
  have hlocks := B.notSynchronized
  subst hsz
  have hD := hD0.self (sz := s.heap.size)
  generalize hAe : va_A [(mA 0, .inr (4, [.int th, .ref (mA 1), .ref (mA 2), .ref (mA 3), .int (nI (mx_n T)), .int (nI (mx_m F)), .ref (mA 4), .ref (mA 5), .ref (mA 6), .ref (mA 7), .ref (mA 8), .ref (mA 9), .int jo, .ref (mA 10), .ref (mA 11)])), (mA 2, .inl (cZ, 16, .inl isu))] s.heap.size = A at hD ⊢
  have hA : ∀ q : Nat, s.heap.size ≤ q → A q := fun q h => by rw [← hAe]; exact Or.inr h
  have hS : va_S A s.heap s.heap [] := va_S.rf
  have hP : va_P (dC, dI) vwCl [(mA 0, .inr (4, [.int th, .ref (mA 1), .ref (mA 2), .ref (mA 3), .int (nI (mx_n T)), .int (nI (mx_m F)), .ref (mA 4), .ref (mA 5), .ref (mA 6), .ref (mA 7), .ref (mA 8), .ref (mA 9), .int jo, .ref (mA 10), .ref (mA 11)])), (mA 2, .inl (cZ, 16, .inl isu))] s.heap := hP
  have hl := lv_entry ([.ref (mA 0), .int w0]) (n := 4) (Nat.le_of_ble_eq_true rfl)
  rw [lg_entry_eq]
  generalize (lg_sl ([.ref (mA 0), .int w0]) ++ List.replicate (4 - (lg_sl ([.ref (mA 0), .int w0])).length) Slot.unset).toArray = ls at hl ⊢
  have hl : lv_has ls 4 [(0, .ref (mA 0)), (1, .int w0)] := hl
  refine lv_aload_n hx hb dX4_about_0 rfl (lv_at hl 0 rfl) ?_
  refine lv_iconst (v := 0) hx hb dX4_about_1 (by decide) ?_
  refine va_put (D := (dC, dI)) (ci := 4) (v := .int 0) (ty := .int) (C := RX4) (T := TX4) (N := 15) hx hb hts (fun w h => woX4_about w (inX4 w h)) tyX4 tyX4_ok nmX4 hown hK hP hD hS 0 rfl rfl 0 (by decide) (hts _ (woX4_about _ wd_493)) (fun _ h9 => h9) rfl (by decide +kernel) rfl rfl (Nat.le_of_ble_eq_true rfl) dX4_about_2 (fun H locs hP hD hS => ?_)
  have hP : va_P (dC, dI) vwCl [(mA 0, .inr (4, [.int 0, .ref (mA 1), .ref (mA 2), .ref (mA 3), .int (nI (mx_n T)), .int (nI (mx_m F)), .ref (mA 4), .ref (mA 5), .ref (mA 6), .ref (mA 7), .ref (mA 8), .ref (mA 9), .int jo, .ref (mA 10), .ref (mA 11)])), (mA 2, .inl (cZ, 16, .inl isu))] H := hP
  have hD : va_D A [(mA 0, .inr (4, [.int 0, .ref (mA 1), .ref (mA 2), .ref (mA 3), .int (nI (mx_n T)), .int (nI (mx_m F)), .ref (mA 4), .ref (mA 5), .ref (mA 6), .ref (mA 7), .ref (mA 8), .ref (mA 9), .int jo, .ref (mA 10), .ref (mA 11)])), (mA 2, .inl (cZ, 16, .inl isu))] := hD
  refine lv_iconst (v := 0) hx hb dX4_about_5 (by decide) ?_
  refine lv_istore_n (lv' := [(2, .int 0), (0, .ref (mA 0)), (1, .int w0)]) hx hb dX4_about_6 rfl hl (by decide) rfl (fun ls hl => ?_)
  refine lv_iconst (v := 0) hx hb dX4_about_7 (by decide) ?_
  refine lv_istore_n (lv' := [(3, .int 0), (2, .int 0), (0, .ref (mA 0)), (1, .int w0)]) hx hb dX4_about_8 rfl hl (by decide) rfl (fun ls hl => ?_)
  refine ab_l hx hb hown hts hK hU hA hml (fun us9 H locs ls hI9 hP hD hS hl => ?_) 16 0 0 _ _ _ (by omega) rfl hP hD hS (lv_sub hl [2, 3, 1, 0] rfl)
  refine lv_iload_n hx hb dX4_about_38 rfl (lv_at hl 1 rfl) ?_
  refine lv_if_ne (tgt := 49) hx hb dX4_about_39 (by decide) (fun d0 => ?_) (fun d0 => ?_)
  · refine lv_iload_n hx hb dX4_about_49 rfl (lv_at hl 1 rfl) ?_
    refine lv_iconst (v := 1) hx hb dX4_about_50 (by decide) ?_
    refine lv_icmp_ne (tgt := 61) hx hb dX4_about_51 (by decide) (fun d1 => ?_) (fun d1 => ?_)
    · refine lv_iload_n hx hb dX4_about_61 rfl (lv_at hl 1 rfl) ?_
      refine lv_iconst (v := 2) hx hb dX4_about_62 (by decide) ?_
      refine lv_icmp_ne (tgt := 70) hx hb dX4_about_63 (by decide) (fun d2 => ?_) (fun d2 => ?_)
      · refine lv_iconst (v := (-1)) hx hb dX4_about_70 (by decide) ?_
        have hP9 := hP.sub (ws' := [(mA 0, .inr (4, [.int 0, .ref (mA 1), .ref (mA 2), .ref (mA 3), .int (nI (mx_n T)), .int (nI (mx_m F)), .ref (mA 4), .ref (mA 5), .ref (mA 6), .ref (mA 7), .ref (mA 8), .ref (mA 9), .int jo, .ref (mA 10), .ref (mA 11)])), (mA 2, .inl (cZ, 16, .inl isu))]) [0, 1] rfl
        have hD9 := hD.sub (ws' := [(mA 0, .inr (4, [.int 0, .ref (mA 1), .ref (mA 2), .ref (mA 3), .int (nI (mx_n T)), .int (nI (mx_m F)), .ref (mA 4), .ref (mA 5), .ref (mA 6), .ref (mA 7), .ref (mA 8), .ref (mA 9), .int jo, .ref (mA 10), .ref (mA 11)])), (mA 2, .inl (cZ, 16, .inl isu))]) [0, 1] (by decide) rfl
        exact W.iret (v := (-1)) hx hb hr (fun t9 ht9 hW9 => ⟨⟨(-1), (), rfl, (by show _ = (if _ then _ else _); rw [if_neg d0, if_neg d1, if_neg d2]), by rw [ht9]; exact hP9, va_K.moved hW9.alike hK, hD9⟩, hS.F ht9⟩) hS.2.2 dX4_about_71
      · refine lv_iload_n hx hb dX4_about_66 rfl (lv_at hl 2 rfl) ?_
        refine lv_goto (tgt := 71) hx hb dX4_about_67 (by decide) ?_
        have hP9 := hP.sub (ws' := [(mA 0, .inr (4, [.int 0, .ref (mA 1), .ref (mA 2), .ref (mA 3), .int (nI (mx_n T)), .int (nI (mx_m F)), .ref (mA 4), .ref (mA 5), .ref (mA 6), .ref (mA 7), .ref (mA 8), .ref (mA 9), .int jo, .ref (mA 10), .ref (mA 11)])), (mA 2, .inl (cZ, 16, .inl isu))]) [0, 1] rfl
        have hD9 := hD.sub (ws' := [(mA 0, .inr (4, [.int 0, .ref (mA 1), .ref (mA 2), .ref (mA 3), .int (nI (mx_n T)), .int (nI (mx_m F)), .ref (mA 4), .ref (mA 5), .ref (mA 6), .ref (mA 7), .ref (mA 8), .ref (mA 9), .int jo, .ref (mA 10), .ref (mA 11)])), (mA 2, .inl (cZ, 16, .inl isu))]) [0, 1] (by decide) rfl
        exact W.iret (v := us9) hx hb hr (fun t9 ht9 hW9 => ⟨⟨us9, (), rfl, (by show _ = (if _ then _ else _); rw [if_neg d0, if_neg d1, if_pos d2, hI9]), by rw [ht9]; exact hP9, va_K.moved hW9.alike hK, hD9⟩, hS.F ht9⟩) hS.2.2 dX4_about_71
    · refine lv_aload_n hx hb dX4_about_54 rfl (lv_at hl 0 rfl) ?_
      refine va_get (D := (dC, dI)) (ci := 4) (v := .int (nI (mx_m F))) (C := RX4) (T := TX4) (N := 15) hx hb hts (fun w h => woX4_about w (inX4 w h)) hown hK hP 0 rfl rfl 5 (by decide) (hts _ (woX4_about _ wd_498)) (fun _ h9 => h9) rfl dX4_about_55 ?_
      refine lv_goto (tgt := 71) hx hb dX4_about_58 (by decide) ?_
      have hP9 := hP.sub (ws' := [(mA 0, .inr (4, [.int 0, .ref (mA 1), .ref (mA 2), .ref (mA 3), .int (nI (mx_n T)), .int (nI (mx_m F)), .ref (mA 4), .ref (mA 5), .ref (mA 6), .ref (mA 7), .ref (mA 8), .ref (mA 9), .int jo, .ref (mA 10), .ref (mA 11)])), (mA 2, .inl (cZ, 16, .inl isu))]) [0, 1] rfl
      have hD9 := hD.sub (ws' := [(mA 0, .inr (4, [.int 0, .ref (mA 1), .ref (mA 2), .ref (mA 3), .int (nI (mx_n T)), .int (nI (mx_m F)), .ref (mA 4), .ref (mA 5), .ref (mA 6), .ref (mA 7), .ref (mA 8), .ref (mA 9), .int jo, .ref (mA 10), .ref (mA 11)])), (mA 2, .inl (cZ, 16, .inl isu))]) [0, 1] (by decide) rfl
      exact W.iret (v := nI (mx_m F)) hx hb hr (fun t9 ht9 hW9 => ⟨⟨nI (mx_m F), (), rfl, (by show _ = (if _ then _ else _); rw [if_neg d0, if_pos d1]), by rw [ht9]; exact hP9, va_K.moved hW9.alike hK, hD9⟩, hS.F ht9⟩) hS.2.2 dX4_about_71
  · refine lv_aload_n hx hb dX4_about_42 rfl (lv_at hl 0 rfl) ?_
    refine va_get (D := (dC, dI)) (ci := 4) (v := .int (nI (mx_n T))) (C := RX4) (T := TX4) (N := 15) hx hb hts (fun w h => woX4_about w (inX4 w h)) hown hK hP 0 rfl rfl 4 (by decide) (hts _ (woX4_about _ wd_497)) (fun _ h9 => h9) rfl dX4_about_43 ?_
    refine lv_goto (tgt := 71) hx hb dX4_about_46 (by decide) ?_
    have hP9 := hP.sub (ws' := [(mA 0, .inr (4, [.int 0, .ref (mA 1), .ref (mA 2), .ref (mA 3), .int (nI (mx_n T)), .int (nI (mx_m F)), .ref (mA 4), .ref (mA 5), .ref (mA 6), .ref (mA 7), .ref (mA 8), .ref (mA 9), .int jo, .ref (mA 10), .ref (mA 11)])), (mA 2, .inl (cZ, 16, .inl isu))]) [0, 1] rfl
    have hD9 := hD.sub (ws' := [(mA 0, .inr (4, [.int 0, .ref (mA 1), .ref (mA 2), .ref (mA 3), .int (nI (mx_n T)), .int (nI (mx_m F)), .ref (mA 4), .ref (mA 5), .ref (mA 6), .ref (mA 7), .ref (mA 8), .ref (mA 9), .int jo, .ref (mA 10), .ref (mA 11)])), (mA 2, .inl (cZ, 16, .inl isu))]) [0, 1] (by decide) rfl
    exact W.iret (v := nI (mx_n T)) hx hb hr (fun t9 ht9 hW9 => ⟨⟨nI (mx_n T), (), rfl, (by show _ = (if _ then _ else _); rw [if_pos d0]), by rw [ht9]; exact hP9, va_K.moved hW9.alike hK, hD9⟩, hS.F ht9⟩) hS.2.2 dX4_about_71
