/-! ROWS -/
def al_1 (F : Nat → Int64) (nm : Nat → Nat) (q : Option Nat) (i : Nat) : Bool := match q with
  | none => true
  | some k => jb (F (nm k)) i

set_option maxHeartbeats 4000000 in
set_option maxRecDepth 100000 in
/-- alike: of a sign, with places one with these -/
theorem c_alike (l : Launch) (dC : Nat → ClassId) (dI : Nat → Nat → Nat) (cI cJ cZ : ClassId) (rA : Nat → Nat) (tA : Nat → Nat) (nm : Nat → Int32) (fu : Nat → Int64) (su : Nat → Int64) (tu : Nat → Int64) (un : Int64) (mi : Int32) (bu : Int64) (os : Nat → Int64) (ct : Int32) (nn : Nat → Nat) (s0 : Nat) (qa : Option Nat) (qb : Option Nat) (qc : Option Nat) (hs : s0 < 16) (hqa : ∀ k, qa = some k → k < 60 ∧ nm k = nI (nn k) ∧ nn k < 60) (hqb : ∀ k, qb = some k → k < 60 ∧ nm k = nI (nn k) ∧ nn k < 60) (hqc : ∀ k, qc = some k → k < 60 ∧ nm k = nI (nn k) ∧ nn k < 60) : Met l yX1_alike wsX1_alike ({ frames := 0, cells := 0, slots := 0, locals := 0 }) (va_Pc [.ref (rA 0), .int (nI s0), .int (mx_enc qa), .int (mx_enc qb), .int (mx_enc qc)] (fun U => va_P (dC, dI) vwCl [(rA 0, .inr (1, [.ref (tA 0), .ref (rA 1), .ref (rA 2), .ref (rA 3), .ref (rA 4), .ref (rA 5), .ref (rA 6), .ref (rA 7), .long un, .int mi])), (rA 1, .inl (cI, 60, .inl nm)), (rA 3, .inl (cJ, 60, .inr (.inl fu))), (rA 4, .inl (cJ, 60, .inr (.inl su))), (rA 5, .inl (cJ, 60, .inr (.inl tu))), (tA 0, .inr (2, [.ref (tA 1), .ref (tA 2), .ref (tA 3), .ref (tA 4), .ref (tA 5), .ref (tA 6), .ref (tA 7), .ref (tA 8), .long bu, .int ct])), (tA 3, .inl (cJ, 16, .inr (.inl os)))] U.heap ∧ va_K (dC, dI) vwCl [(cI, .int), (cJ, .long), (cZ, .boolean)] U)) (vp_Sl (fun r => ∀ i, jb r i = (jb (os s0) i && al_1 fu nn qa i && al_1 su nn qb i && al_1 tu nn qc i))) 0 0 (fun _ => False) := by
  refine Met.ofW (cc := cX1_alike) (maxL := 7) (ret := (some .long)) (by decide) rfl ?_
  intro p e s m args below meth c s₁ B hml hv
  obtain ⟨rfl, hP, hK⟩ := hv
  have hx := B.exec
  have hb := B.bytes
  have hr := B.returns
  have hts := atoms_spec (ws := wsX1_alike) B.pre
  have hown : s.vm.findClass RX1 = some m.cls := findClass_of_methodNamed B.named
  have hlocks := B.notSynchronized
  have hP : va_P (dC, dI) vwCl [(rA 0, .inr (1, [.ref (tA 0), .ref (rA 1), .ref (rA 2), .ref (rA 3), .ref (rA 4), .ref (rA 5), .ref (rA 6), .ref (rA 7), .long un, .int mi])), (rA 1, .inl (cI, 60, .inl nm)), (rA 3, .inl (cJ, 60, .inr (.inl fu))), (rA 4, .inl (cJ, 60, .inr (.inl su))), (rA 5, .inl (cJ, 60, .inr (.inl tu))), (tA 0, .inr (2, [.ref (tA 1), .ref (tA 2), .ref (tA 3), .ref (tA 4), .ref (tA 5), .ref (tA 6), .ref (tA 7), .ref (tA 8), .long bu, .int ct])), (tA 3, .inl (cJ, 16, .inr (.inl os)))] s.heap := hP
  have hl := lv_entry ([.ref (rA 0), .int (nI s0), .int (mx_enc qa), .int (mx_enc qb), .int (mx_enc qc)]) (n := 7) (Nat.le_of_ble_eq_true rfl)
  rw [lg_entry_eq]
  generalize (lg_sl ([.ref (rA 0), .int (nI s0), .int (mx_enc qa), .int (mx_enc qb), .int (mx_enc qc)]) ++ List.replicate (7 - (lg_sl ([.ref (rA 0), .int (nI s0), .int (mx_enc qa), .int (mx_enc qb), .int (mx_enc qc)])).length) Slot.unset).toArray = ls at hl ⊢
  have hl : lv_has ls 7 [(0, .ref (rA 0)), (1, .int (nI s0)), (2, .int (mx_enc qa)), (3, .int (mx_enc qb)), (4, .int (mx_enc qc))] := hl
  refine lv_aload_n hx hb dX1_alike_0 rfl (lv_at hl 0 rfl) ?_
  refine va_get (D := (dC, dI)) (ci := 1) (v := .ref (tA 0)) (C := RX1) (T := TX1) (N := 10) hx hb hts (fun w h => woX1_alike w (inX1 w h)) hown hK hP 0 rfl rfl 0 (by decide) (hts _ (woX1_alike _ wd_108)) (fun _ h9 => h9) rfl dX1_alike_1 ?_
  refine va_get (D := (dC, dI)) (ci := 2) (v := .ref (tA 3)) (C := RX2) (T := TX2) (N := 10) hx hb hts (fun w h => woX1_alike w (inX2 w h)) hown hK hP 5 rfl rfl 2 (by decide) (hts _ (woX1_alike _ wd_34)) (fun _ h9 => h9) rfl dX1_alike_4 ?_
  refine lv_iload_n hx hb dX1_alike_7 rfl (lv_at hl 1 rfl) ?_
  refine va_lald hx hb hK hP 6 1 rfl rfl (vp_in_nI (by omega) (by omega)) dX1_alike_8 ?_
  rw [show (nI s0).toNatClampNeg = s0 from nI_clamp (by omega)]
  refine lv_lstore (lv' := [(5, .long (os s0)), (0, .ref (rA 0)), (1, .int (nI s0)), (2, .int (mx_enc qa)), (3, .int (mx_enc qb)), (4, .int (mx_enc qc))]) hx hb dX1_alike_9 hl (by decide) rfl (fun ls hl => ?_)
  refine lv_iload_n hx hb dX1_alike_11 rfl (lv_at hl 3 rfl) ?_
  refine lv_iconst (v := (-1)) hx hb dX1_alike_12 (by decide) ?_
  refine lv_icmp_eq (tgt := 32) hx hb dX1_alike_13 (by decide) (fun c0 => ?_) (fun c0 => ?_)
  · have z : qa = none := (mx_enc_m1 (fun k h => Nat.lt_of_lt_of_le (hqa k h).1 (by decide))).mp c0
    subst z
    refine lv_iload_n hx hb dX1_alike_32 rfl (lv_at hl 4 rfl) ?_
    refine lv_iconst (v := (-1)) hx hb dX1_alike_33 (by decide) ?_
    refine lv_icmp_eq (tgt := 53) hx hb dX1_alike_34 (by decide) (fun c1 => ?_) (fun c1 => ?_)
    · have z : qb = none := (mx_enc_m1 (fun k h => Nat.lt_of_lt_of_le (hqb k h).1 (by decide))).mp c1
      subst z
      refine lv_iload hx hb dX1_alike_53 (lv_at hl 5 rfl) ?_
      refine lv_iconst (v := (-1)) hx hb dX1_alike_55 (by decide) ?_
      refine lv_icmp_eq (tgt := 76) hx hb dX1_alike_56 (by decide) (fun c2 => ?_) (fun c2 => ?_)
      · have z : qc = none := (mx_enc_m1 (fun k h => Nat.lt_of_lt_of_le (hqc k h).1 (by decide))).mp c2
        subst z
        refine lv_lload hx hb dX1_alike_76 (lv_at hl 0 rfl) ?_
        exact W.lret (v := os s0) hx hb hr (fun t9 ht9 _ => ⟨_, rfl, fun i => by simp [al_1, jb_and, Bool.and_assoc], ht9⟩) (fun q h => by cases h) dX1_alike_78
      · obtain ⟨k2, rfl⟩ : ∃ k, qc = some k := by cases qc with | none => exact absurd rfl c2 | some k => exact ⟨k, rfl⟩
        obtain ⟨gk21, gk22, gk23⟩ := hqc k2 rfl
        have hl : lv_has ls 7 [(5, .long (os s0)), (0, .ref (rA 0)), (1, .int (nI s0)), (2, .int (mx_enc none)), (3, .int (mx_enc none)), (4, .int (nI k2))] := hl
        refine lv_lload hx hb dX1_alike_59 (lv_at hl 0 rfl) ?_
        refine lv_aload_n hx hb dX1_alike_61 rfl (lv_at hl 1 rfl) ?_
        refine va_get (D := (dC, dI)) (ci := 1) (v := .ref (rA 5)) (C := RX1) (T := TX1) (N := 10) hx hb hts (fun w h => woX1_alike w (inX1 w h)) hown hK hP 0 rfl rfl 5 (by decide) (hts _ (woX1_alike _ wd_115)) (fun _ h9 => h9) rfl dX1_alike_62 ?_
        refine lv_aload_n hx hb dX1_alike_65 rfl (lv_at hl 1 rfl) ?_
        refine va_get (D := (dC, dI)) (ci := 1) (v := .ref (rA 1)) (C := RX1) (T := TX1) (N := 10) hx hb hts (fun w h => woX1_alike w (inX1 w h)) hown hK hP 0 rfl rfl 1 (by decide) (hts _ (woX1_alike _ wd_109)) (fun _ h9 => h9) rfl dX1_alike_66 ?_
        refine lv_iload hx hb dX1_alike_69 (lv_at hl 5 rfl) ?_
        refine va_iald hx hb hK hP 1 0 rfl rfl (vp_in_nI (by omega) (by omega)) dX1_alike_71 ?_
        rw [show (nI k2).toNatClampNeg = k2 from nI_clamp (by omega)]
        rw [gk22]
        refine va_lald hx hb hK hP 4 1 rfl rfl (vp_in_nI (by omega) (by omega)) dX1_alike_72 ?_
        rw [show (nI (nn k2)).toNatClampNeg = (nn k2) from nI_clamp (by omega)]
        refine lv_land hx hb dX1_alike_73 ?_
        refine lv_lstore (lv' := [(5, .long ((os s0) &&& (tu (nn k2)))), (0, .ref (rA 0)), (1, .int (nI s0)), (2, .int (mx_enc none)), (3, .int (mx_enc none)), (4, .int (nI k2))]) hx hb dX1_alike_74 hl (by decide) rfl (fun ls hl => ?_)
        refine lv_lload hx hb dX1_alike_76 (lv_at hl 0 rfl) ?_
        exact W.lret (v := (os s0) &&& (tu (nn k2))) hx hb hr (fun t9 ht9 _ => ⟨_, rfl, fun i => by simp [al_1, jb_and, Bool.and_assoc], ht9⟩) (fun q h => by cases h) dX1_alike_78
    · obtain ⟨k1, rfl⟩ : ∃ k, qb = some k := by cases qb with | none => exact absurd rfl c1 | some k => exact ⟨k, rfl⟩
      obtain ⟨gk11, gk12, gk13⟩ := hqb k1 rfl
      have hl : lv_has ls 7 [(5, .long (os s0)), (0, .ref (rA 0)), (1, .int (nI s0)), (2, .int (mx_enc none)), (3, .int (nI k1)), (4, .int (mx_enc qc))] := hl
      refine lv_lload hx hb dX1_alike_37 (lv_at hl 0 rfl) ?_
      refine lv_aload_n hx hb dX1_alike_39 rfl (lv_at hl 1 rfl) ?_
      refine va_get (D := (dC, dI)) (ci := 1) (v := .ref (rA 4)) (C := RX1) (T := TX1) (N := 10) hx hb hts (fun w h => woX1_alike w (inX1 w h)) hown hK hP 0 rfl rfl 4 (by decide) (hts _ (woX1_alike _ wd_114)) (fun _ h9 => h9) rfl dX1_alike_40 ?_
      refine lv_aload_n hx hb dX1_alike_43 rfl (lv_at hl 1 rfl) ?_
      refine va_get (D := (dC, dI)) (ci := 1) (v := .ref (rA 1)) (C := RX1) (T := TX1) (N := 10) hx hb hts (fun w h => woX1_alike w (inX1 w h)) hown hK hP 0 rfl rfl 1 (by decide) (hts _ (woX1_alike _ wd_109)) (fun _ h9 => h9) rfl dX1_alike_44 ?_
      refine lv_iload_n hx hb dX1_alike_47 rfl (lv_at hl 4 rfl) ?_
      refine va_iald hx hb hK hP 1 0 rfl rfl (vp_in_nI (by omega) (by omega)) dX1_alike_48 ?_
      rw [show (nI k1).toNatClampNeg = k1 from nI_clamp (by omega)]
      rw [gk12]
      refine va_lald hx hb hK hP 3 1 rfl rfl (vp_in_nI (by omega) (by omega)) dX1_alike_49 ?_
      rw [show (nI (nn k1)).toNatClampNeg = (nn k1) from nI_clamp (by omega)]
      refine lv_land hx hb dX1_alike_50 ?_
      refine lv_lstore (lv' := [(5, .long ((os s0) &&& (su (nn k1)))), (0, .ref (rA 0)), (1, .int (nI s0)), (2, .int (mx_enc none)), (3, .int (nI k1)), (4, .int (mx_enc qc))]) hx hb dX1_alike_51 hl (by decide) rfl (fun ls hl => ?_)
      refine lv_iload hx hb dX1_alike_53 (lv_at hl 5 rfl) ?_
      refine lv_iconst (v := (-1)) hx hb dX1_alike_55 (by decide) ?_
      refine lv_icmp_eq (tgt := 76) hx hb dX1_alike_56 (by decide) (fun c2 => ?_) (fun c2 => ?_)
      · have z : qc = none := (mx_enc_m1 (fun k h => Nat.lt_of_lt_of_le (hqc k h).1 (by decide))).mp c2
        subst z
        refine lv_lload hx hb dX1_alike_76 (lv_at hl 0 rfl) ?_
        exact W.lret (v := (os s0) &&& (su (nn k1))) hx hb hr (fun t9 ht9 _ => ⟨_, rfl, fun i => by simp [al_1, jb_and, Bool.and_assoc], ht9⟩) (fun q h => by cases h) dX1_alike_78
      · obtain ⟨k2, rfl⟩ : ∃ k, qc = some k := by cases qc with | none => exact absurd rfl c2 | some k => exact ⟨k, rfl⟩
        obtain ⟨gk21, gk22, gk23⟩ := hqc k2 rfl
        have hl : lv_has ls 7 [(5, .long ((os s0) &&& (su (nn k1)))), (0, .ref (rA 0)), (1, .int (nI s0)), (2, .int (mx_enc none)), (3, .int (nI k1)), (4, .int (nI k2))] := hl
        refine lv_lload hx hb dX1_alike_59 (lv_at hl 0 rfl) ?_
        refine lv_aload_n hx hb dX1_alike_61 rfl (lv_at hl 1 rfl) ?_
        refine va_get (D := (dC, dI)) (ci := 1) (v := .ref (rA 5)) (C := RX1) (T := TX1) (N := 10) hx hb hts (fun w h => woX1_alike w (inX1 w h)) hown hK hP 0 rfl rfl 5 (by decide) (hts _ (woX1_alike _ wd_115)) (fun _ h9 => h9) rfl dX1_alike_62 ?_
        refine lv_aload_n hx hb dX1_alike_65 rfl (lv_at hl 1 rfl) ?_
        refine va_get (D := (dC, dI)) (ci := 1) (v := .ref (rA 1)) (C := RX1) (T := TX1) (N := 10) hx hb hts (fun w h => woX1_alike w (inX1 w h)) hown hK hP 0 rfl rfl 1 (by decide) (hts _ (woX1_alike _ wd_109)) (fun _ h9 => h9) rfl dX1_alike_66 ?_
        refine lv_iload hx hb dX1_alike_69 (lv_at hl 5 rfl) ?_
        refine va_iald hx hb hK hP 1 0 rfl rfl (vp_in_nI (by omega) (by omega)) dX1_alike_71 ?_
        rw [show (nI k2).toNatClampNeg = k2 from nI_clamp (by omega)]
        rw [gk22]
        refine va_lald hx hb hK hP 4 1 rfl rfl (vp_in_nI (by omega) (by omega)) dX1_alike_72 ?_
        rw [show (nI (nn k2)).toNatClampNeg = (nn k2) from nI_clamp (by omega)]
        refine lv_land hx hb dX1_alike_73 ?_
        refine lv_lstore (lv' := [(5, .long (((os s0) &&& (su (nn k1))) &&& (tu (nn k2)))), (0, .ref (rA 0)), (1, .int (nI s0)), (2, .int (mx_enc none)), (3, .int (nI k1)), (4, .int (nI k2))]) hx hb dX1_alike_74 hl (by decide) rfl (fun ls hl => ?_)
        refine lv_lload hx hb dX1_alike_76 (lv_at hl 0 rfl) ?_
        exact W.lret (v := ((os s0) &&& (su (nn k1))) &&& (tu (nn k2))) hx hb hr (fun t9 ht9 _ => ⟨_, rfl, fun i => by simp [al_1, jb_and, Bool.and_assoc], ht9⟩) (fun q h => by cases h) dX1_alike_78
  · obtain ⟨k0, rfl⟩ : ∃ k, qa = some k := by cases qa with | none => exact absurd rfl c0 | some k => exact ⟨k, rfl⟩
    obtain ⟨gk01, gk02, gk03⟩ := hqa k0 rfl
    have hl : lv_has ls 7 [(5, .long (os s0)), (0, .ref (rA 0)), (1, .int (nI s0)), (2, .int (nI k0)), (3, .int (mx_enc qb)), (4, .int (mx_enc qc))] := hl
    refine lv_lload hx hb dX1_alike_16 (lv_at hl 0 rfl) ?_
    refine lv_aload_n hx hb dX1_alike_18 rfl (lv_at hl 1 rfl) ?_
    refine va_get (D := (dC, dI)) (ci := 1) (v := .ref (rA 3)) (C := RX1) (T := TX1) (N := 10) hx hb hts (fun w h => woX1_alike w (inX1 w h)) hown hK hP 0 rfl rfl 3 (by decide) (hts _ (woX1_alike _ wd_113)) (fun _ h9 => h9) rfl dX1_alike_19 ?_
    refine lv_aload_n hx hb dX1_alike_22 rfl (lv_at hl 1 rfl) ?_
    refine va_get (D := (dC, dI)) (ci := 1) (v := .ref (rA 1)) (C := RX1) (T := TX1) (N := 10) hx hb hts (fun w h => woX1_alike w (inX1 w h)) hown hK hP 0 rfl rfl 1 (by decide) (hts _ (woX1_alike _ wd_109)) (fun _ h9 => h9) rfl dX1_alike_23 ?_
    refine lv_iload_n hx hb dX1_alike_26 rfl (lv_at hl 3 rfl) ?_
    refine va_iald hx hb hK hP 1 0 rfl rfl (vp_in_nI (by omega) (by omega)) dX1_alike_27 ?_
    rw [show (nI k0).toNatClampNeg = k0 from nI_clamp (by omega)]
    rw [gk02]
    refine va_lald hx hb hK hP 2 1 rfl rfl (vp_in_nI (by omega) (by omega)) dX1_alike_28 ?_
    rw [show (nI (nn k0)).toNatClampNeg = (nn k0) from nI_clamp (by omega)]
    refine lv_land hx hb dX1_alike_29 ?_
    refine lv_lstore (lv' := [(5, .long ((os s0) &&& (fu (nn k0)))), (0, .ref (rA 0)), (1, .int (nI s0)), (2, .int (nI k0)), (3, .int (mx_enc qb)), (4, .int (mx_enc qc))]) hx hb dX1_alike_30 hl (by decide) rfl (fun ls hl => ?_)
    refine lv_iload_n hx hb dX1_alike_32 rfl (lv_at hl 4 rfl) ?_
    refine lv_iconst (v := (-1)) hx hb dX1_alike_33 (by decide) ?_
    refine lv_icmp_eq (tgt := 53) hx hb dX1_alike_34 (by decide) (fun c1 => ?_) (fun c1 => ?_)
    · have z : qb = none := (mx_enc_m1 (fun k h => Nat.lt_of_lt_of_le (hqb k h).1 (by decide))).mp c1
      subst z
      refine lv_iload hx hb dX1_alike_53 (lv_at hl 5 rfl) ?_
      refine lv_iconst (v := (-1)) hx hb dX1_alike_55 (by decide) ?_
      refine lv_icmp_eq (tgt := 76) hx hb dX1_alike_56 (by decide) (fun c2 => ?_) (fun c2 => ?_)
      · have z : qc = none := (mx_enc_m1 (fun k h => Nat.lt_of_lt_of_le (hqc k h).1 (by decide))).mp c2
        subst z
        refine lv_lload hx hb dX1_alike_76 (lv_at hl 0 rfl) ?_
        exact W.lret (v := (os s0) &&& (fu (nn k0))) hx hb hr (fun t9 ht9 _ => ⟨_, rfl, fun i => by simp [al_1, jb_and, Bool.and_assoc], ht9⟩) (fun q h => by cases h) dX1_alike_78
      · obtain ⟨k2, rfl⟩ : ∃ k, qc = some k := by cases qc with | none => exact absurd rfl c2 | some k => exact ⟨k, rfl⟩
        obtain ⟨gk21, gk22, gk23⟩ := hqc k2 rfl
        have hl : lv_has ls 7 [(5, .long ((os s0) &&& (fu (nn k0)))), (0, .ref (rA 0)), (1, .int (nI s0)), (2, .int (nI k0)), (3, .int (mx_enc none)), (4, .int (nI k2))] := hl
        refine lv_lload hx hb dX1_alike_59 (lv_at hl 0 rfl) ?_
        refine lv_aload_n hx hb dX1_alike_61 rfl (lv_at hl 1 rfl) ?_
        refine va_get (D := (dC, dI)) (ci := 1) (v := .ref (rA 5)) (C := RX1) (T := TX1) (N := 10) hx hb hts (fun w h => woX1_alike w (inX1 w h)) hown hK hP 0 rfl rfl 5 (by decide) (hts _ (woX1_alike _ wd_115)) (fun _ h9 => h9) rfl dX1_alike_62 ?_
        refine lv_aload_n hx hb dX1_alike_65 rfl (lv_at hl 1 rfl) ?_
        refine va_get (D := (dC, dI)) (ci := 1) (v := .ref (rA 1)) (C := RX1) (T := TX1) (N := 10) hx hb hts (fun w h => woX1_alike w (inX1 w h)) hown hK hP 0 rfl rfl 1 (by decide) (hts _ (woX1_alike _ wd_109)) (fun _ h9 => h9) rfl dX1_alike_66 ?_
        refine lv_iload hx hb dX1_alike_69 (lv_at hl 5 rfl) ?_
        refine va_iald hx hb hK hP 1 0 rfl rfl (vp_in_nI (by omega) (by omega)) dX1_alike_71 ?_
        rw [show (nI k2).toNatClampNeg = k2 from nI_clamp (by omega)]
        rw [gk22]
        refine va_lald hx hb hK hP 4 1 rfl rfl (vp_in_nI (by omega) (by omega)) dX1_alike_72 ?_
        rw [show (nI (nn k2)).toNatClampNeg = (nn k2) from nI_clamp (by omega)]
        refine lv_land hx hb dX1_alike_73 ?_
        refine lv_lstore (lv' := [(5, .long (((os s0) &&& (fu (nn k0))) &&& (tu (nn k2)))), (0, .ref (rA 0)), (1, .int (nI s0)), (2, .int (nI k0)), (3, .int (mx_enc none)), (4, .int (nI k2))]) hx hb dX1_alike_74 hl (by decide) rfl (fun ls hl => ?_)
        refine lv_lload hx hb dX1_alike_76 (lv_at hl 0 rfl) ?_
        exact W.lret (v := ((os s0) &&& (fu (nn k0))) &&& (tu (nn k2))) hx hb hr (fun t9 ht9 _ => ⟨_, rfl, fun i => by simp [al_1, jb_and, Bool.and_assoc], ht9⟩) (fun q h => by cases h) dX1_alike_78
    · obtain ⟨k1, rfl⟩ : ∃ k, qb = some k := by cases qb with | none => exact absurd rfl c1 | some k => exact ⟨k, rfl⟩
      obtain ⟨gk11, gk12, gk13⟩ := hqb k1 rfl
      have hl : lv_has ls 7 [(5, .long ((os s0) &&& (fu (nn k0)))), (0, .ref (rA 0)), (1, .int (nI s0)), (2, .int (nI k0)), (3, .int (nI k1)), (4, .int (mx_enc qc))] := hl
      refine lv_lload hx hb dX1_alike_37 (lv_at hl 0 rfl) ?_
      refine lv_aload_n hx hb dX1_alike_39 rfl (lv_at hl 1 rfl) ?_
      refine va_get (D := (dC, dI)) (ci := 1) (v := .ref (rA 4)) (C := RX1) (T := TX1) (N := 10) hx hb hts (fun w h => woX1_alike w (inX1 w h)) hown hK hP 0 rfl rfl 4 (by decide) (hts _ (woX1_alike _ wd_114)) (fun _ h9 => h9) rfl dX1_alike_40 ?_
      refine lv_aload_n hx hb dX1_alike_43 rfl (lv_at hl 1 rfl) ?_
      refine va_get (D := (dC, dI)) (ci := 1) (v := .ref (rA 1)) (C := RX1) (T := TX1) (N := 10) hx hb hts (fun w h => woX1_alike w (inX1 w h)) hown hK hP 0 rfl rfl 1 (by decide) (hts _ (woX1_alike _ wd_109)) (fun _ h9 => h9) rfl dX1_alike_44 ?_
      refine lv_iload_n hx hb dX1_alike_47 rfl (lv_at hl 4 rfl) ?_
      refine va_iald hx hb hK hP 1 0 rfl rfl (vp_in_nI (by omega) (by omega)) dX1_alike_48 ?_
      rw [show (nI k1).toNatClampNeg = k1 from nI_clamp (by omega)]
      rw [gk12]
      refine va_lald hx hb hK hP 3 1 rfl rfl (vp_in_nI (by omega) (by omega)) dX1_alike_49 ?_
      rw [show (nI (nn k1)).toNatClampNeg = (nn k1) from nI_clamp (by omega)]
      refine lv_land hx hb dX1_alike_50 ?_
      refine lv_lstore (lv' := [(5, .long (((os s0) &&& (fu (nn k0))) &&& (su (nn k1)))), (0, .ref (rA 0)), (1, .int (nI s0)), (2, .int (nI k0)), (3, .int (nI k1)), (4, .int (mx_enc qc))]) hx hb dX1_alike_51 hl (by decide) rfl (fun ls hl => ?_)
      refine lv_iload hx hb dX1_alike_53 (lv_at hl 5 rfl) ?_
      refine lv_iconst (v := (-1)) hx hb dX1_alike_55 (by decide) ?_
      refine lv_icmp_eq (tgt := 76) hx hb dX1_alike_56 (by decide) (fun c2 => ?_) (fun c2 => ?_)
      · have z : qc = none := (mx_enc_m1 (fun k h => Nat.lt_of_lt_of_le (hqc k h).1 (by decide))).mp c2
        subst z
        refine lv_lload hx hb dX1_alike_76 (lv_at hl 0 rfl) ?_
        exact W.lret (v := ((os s0) &&& (fu (nn k0))) &&& (su (nn k1))) hx hb hr (fun t9 ht9 _ => ⟨_, rfl, fun i => by simp [al_1, jb_and, Bool.and_assoc], ht9⟩) (fun q h => by cases h) dX1_alike_78
      · obtain ⟨k2, rfl⟩ : ∃ k, qc = some k := by cases qc with | none => exact absurd rfl c2 | some k => exact ⟨k, rfl⟩
        obtain ⟨gk21, gk22, gk23⟩ := hqc k2 rfl
        have hl : lv_has ls 7 [(5, .long (((os s0) &&& (fu (nn k0))) &&& (su (nn k1)))), (0, .ref (rA 0)), (1, .int (nI s0)), (2, .int (nI k0)), (3, .int (nI k1)), (4, .int (nI k2))] := hl
        refine lv_lload hx hb dX1_alike_59 (lv_at hl 0 rfl) ?_
        refine lv_aload_n hx hb dX1_alike_61 rfl (lv_at hl 1 rfl) ?_
        refine va_get (D := (dC, dI)) (ci := 1) (v := .ref (rA 5)) (C := RX1) (T := TX1) (N := 10) hx hb hts (fun w h => woX1_alike w (inX1 w h)) hown hK hP 0 rfl rfl 5 (by decide) (hts _ (woX1_alike _ wd_115)) (fun _ h9 => h9) rfl dX1_alike_62 ?_
        refine lv_aload_n hx hb dX1_alike_65 rfl (lv_at hl 1 rfl) ?_
        refine va_get (D := (dC, dI)) (ci := 1) (v := .ref (rA 1)) (C := RX1) (T := TX1) (N := 10) hx hb hts (fun w h => woX1_alike w (inX1 w h)) hown hK hP 0 rfl rfl 1 (by decide) (hts _ (woX1_alike _ wd_109)) (fun _ h9 => h9) rfl dX1_alike_66 ?_
        refine lv_iload hx hb dX1_alike_69 (lv_at hl 5 rfl) ?_
        refine va_iald hx hb hK hP 1 0 rfl rfl (vp_in_nI (by omega) (by omega)) dX1_alike_71 ?_
        rw [show (nI k2).toNatClampNeg = k2 from nI_clamp (by omega)]
        rw [gk22]
        refine va_lald hx hb hK hP 4 1 rfl rfl (vp_in_nI (by omega) (by omega)) dX1_alike_72 ?_
        rw [show (nI (nn k2)).toNatClampNeg = (nn k2) from nI_clamp (by omega)]
        refine lv_land hx hb dX1_alike_73 ?_
        refine lv_lstore (lv' := [(5, .long ((((os s0) &&& (fu (nn k0))) &&& (su (nn k1))) &&& (tu (nn k2)))), (0, .ref (rA 0)), (1, .int (nI s0)), (2, .int (nI k0)), (3, .int (nI k1)), (4, .int (nI k2))]) hx hb dX1_alike_74 hl (by decide) rfl (fun ls hl => ?_)
        refine lv_lload hx hb dX1_alike_76 (lv_at hl 0 rfl) ?_
        exact W.lret (v := (((os s0) &&& (fu (nn k0))) &&& (su (nn k1))) &&& (tu (nn k2))) hx hb hr (fun t9 ht9 _ => ⟨_, rfl, fun i => by simp [al_1, jb_and, Bool.and_assoc], ht9⟩) (fun q h => by cases h) dX1_alike_78

def jb_bd (bd : Nat → Int32) (k g : Nat) : Nat → Int32 := if bd k = -1 then upd bd k (bd g) else bd
def jb_mi (bd : Nat → Int32) (mi : Int32) (k g : Nat) : Int32 := if bd k = -1 then mi else if bd g = -1 then mi else if bd g = bd k then mi else 1

set_option maxHeartbeats 4000000 in
set_option maxRecDepth 100000 in
/-- joinBuilders -/
theorem c_joinBuilders (l : Launch) (dC : Nat → ClassId) (dI : Nat → Nat → Nat) (cI cJ cZ : ClassId) (rA : Nat → Nat) (tA : Nat → Nat) (bd : Nat → Int32) (un : Int64) (mi : Int32) (k : Nat) (g : Nat) (sz : Nat) (hk : k < 60) (hg : g < 60) : Met l yX1_joinBuilders wsX1_joinBuilders ({ frames := 0, cells := 0, slots := 0, locals := 0 }) (va_Pc [.ref (rA 0), .int (nI k), .int (nI g)] (fun U => U.heap.size = sz ∧ va_P (dC, dI) vwCl [(rA 0, .inr (1, [.ref (tA 0), .ref (rA 1), .ref (rA 2), .ref (rA 3), .ref (rA 4), .ref (rA 5), .ref (rA 6), .ref (rA 7), .long un, .int mi])), (rA 7, .inl (cI, 60, .inl bd))] U.heap ∧ va_K (dC, dI) vwCl [(cI, .int), (cJ, .long), (cZ, .boolean)] U ∧ va_D (fun _ => True) [(rA 0, .inr (1, [.ref (tA 0), .ref (rA 1), .ref (rA 2), .ref (rA 3), .ref (rA 4), .ref (rA 5), .ref (rA 6), .ref (rA 7), .long un, .int mi])), (rA 7, .inl (cI, 60, .inl bd))])) (va_Qv (fun u : (Nat → Int32) × Int32 => u.1 = jb_bd bd k g ∧ u.2 = jb_mi bd mi k g) (fun (u : (Nat → Int32) × Int32) t => match u with | (bd2, mi2) => va_P (dC, dI) vwCl [(rA 0, .inr (1, [.ref (tA 0), .ref (rA 1), .ref (rA 2), .ref (rA 3), .ref (rA 4), .ref (rA 5), .ref (rA 6), .ref (rA 7), .long un, .int mi2])), (rA 7, .inl (cI, 60, .inl bd2))] t.heap ∧ va_K (dC, dI) vwCl [(cI, .int), (cJ, .long), (cZ, .boolean)] t ∧ va_D (va_A [(rA 0, .inr (1, [.ref (tA 0), .ref (rA 1), .ref (rA 2), .ref (rA 3), .ref (rA 4), .ref (rA 5), .ref (rA 6), .ref (rA 7), .long un, .int mi])), (rA 7, .inl (cI, 60, .inl bd))] sz) [(rA 0, .inr (1, [.ref (tA 0), .ref (rA 1), .ref (rA 2), .ref (rA 3), .ref (rA 4), .ref (rA 5), .ref (rA 6), .ref (rA 7), .long un, .int mi2])), (rA 7, .inl (cI, 60, .inl bd2))]) (va_A [(rA 0, .inr (1, [.ref (tA 0), .ref (rA 1), .ref (rA 2), .ref (rA 3), .ref (rA 4), .ref (rA 5), .ref (rA 6), .ref (rA 7), .long un, .int mi])), (rA 7, .inl (cI, 60, .inl bd))] sz)) 0 0 (va_A [(rA 0, .inr (1, [.ref (tA 0), .ref (rA 1), .ref (rA 2), .ref (rA 3), .ref (rA 4), .ref (rA 5), .ref (rA 6), .ref (rA 7), .long un, .int mi])), (rA 7, .inl (cI, 60, .inl bd))] sz) := by
  refine Met.ofW (cc := cX1_joinBuilders) (maxL := 3) (ret := none) (by decide) rfl ?_
  intro p e s m args below meth c s₁ B hml hv
  obtain ⟨rfl, hsz, hP, hK, hD0⟩ := hv
  have hx := B.exec
  have hb := B.bytes
  have hr := B.returns
  have hts := atoms_spec (ws := wsX1_joinBuilders) B.pre
  have hown : s.vm.findClass RX1 = some m.cls := findClass_of_methodNamed B.named
  have hlocks := B.notSynchronized
  subst hsz
  have hD := hD0.self (sz := s.heap.size)
  generalize hAe : va_A [(rA 0, .inr (1, [.ref (tA 0), .ref (rA 1), .ref (rA 2), .ref (rA 3), .ref (rA 4), .ref (rA 5), .ref (rA 6), .ref (rA 7), .long un, .int mi])), (rA 7, .inl (cI, 60, .inl bd))] s.heap.size = A at hD ⊢
  have hA : ∀ q : Nat, s.heap.size ≤ q → A q := fun q h => by rw [← hAe]; exact Or.inr h
  have hS : va_S A s.heap s.heap [] := va_S.rf
  have hP : va_P (dC, dI) vwCl [(rA 0, .inr (1, [.ref (tA 0), .ref (rA 1), .ref (rA 2), .ref (rA 3), .ref (rA 4), .ref (rA 5), .ref (rA 6), .ref (rA 7), .long un, .int mi])), (rA 7, .inl (cI, 60, .inl bd))] s.heap := hP
  have hl := lv_entry ([.ref (rA 0), .int (nI k), .int (nI g)]) (n := 3) (Nat.le_of_ble_eq_true rfl)
  rw [lg_entry_eq]
  generalize (lg_sl ([.ref (rA 0), .int (nI k), .int (nI g)]) ++ List.replicate (3 - (lg_sl ([.ref (rA 0), .int (nI k), .int (nI g)])).length) Slot.unset).toArray = ls at hl ⊢
  have hl : lv_has ls 3 [(0, .ref (rA 0)), (1, .int (nI k)), (2, .int (nI g))] := hl
  refine lv_aload_n hx hb dX1_joinBuilders_0 rfl (lv_at hl 0 rfl) ?_
  refine va_get (D := (dC, dI)) (ci := 1) (v := .ref (rA 7)) (C := RX1) (T := TX1) (N := 10) hx hb hts (fun w h => woX1_joinBuilders w (inX1 w h)) hown hK hP 0 rfl rfl 7 (by decide) (hts _ (woX1_joinBuilders _ wd_117)) (fun _ h9 => h9) rfl dX1_joinBuilders_1 ?_
  refine lv_iload_n hx hb dX1_joinBuilders_4 rfl (lv_at hl 1 rfl) ?_
  refine va_iald hx hb hK hP 1 0 rfl rfl (vp_in_nI (by omega) (by omega)) dX1_joinBuilders_5 ?_
  rw [show (nI k).toNatClampNeg = k from nI_clamp (by omega)]
  refine lv_iconst (v := (-1)) hx hb dX1_joinBuilders_6 (by decide) ?_
  refine lv_icmp_ne (tgt := 25) hx hb dX1_joinBuilders_7 (by decide) (fun c1 => ?_) (fun c1 => ?_)
  · refine lv_aload_n hx hb dX1_joinBuilders_25 rfl (lv_at hl 0 rfl) ?_
    refine va_get (D := (dC, dI)) (ci := 1) (v := .ref (rA 7)) (C := RX1) (T := TX1) (N := 10) hx hb hts (fun w h => woX1_joinBuilders w (inX1 w h)) hown hK hP 0 rfl rfl 7 (by decide) (hts _ (woX1_joinBuilders _ wd_117)) (fun _ h9 => h9) rfl dX1_joinBuilders_26 ?_
    refine lv_iload_n hx hb dX1_joinBuilders_29 rfl (lv_at hl 2 rfl) ?_
    refine va_iald hx hb hK hP 1 0 rfl rfl (vp_in_nI (by omega) (by omega)) dX1_joinBuilders_30 ?_
    rw [show (nI g).toNatClampNeg = g from nI_clamp (by omega)]
    refine lv_iconst (v := (-1)) hx hb dX1_joinBuilders_31 (by decide) ?_
    refine lv_icmp_eq (tgt := 55) hx hb dX1_joinBuilders_32 (by decide) (fun c2 => ?_) (fun c2 => ?_)
    · have hP9 := hP.sub (ws' := [(rA 0, .inr (1, [.ref (tA 0), .ref (rA 1), .ref (rA 2), .ref (rA 3), .ref (rA 4), .ref (rA 5), .ref (rA 6), .ref (rA 7), .long un, .int mi])), (rA 7, .inl (cI, 60, .inl bd))]) [0, 1] rfl
      have hD9 := hD.sub (ws' := [(rA 0, .inr (1, [.ref (tA 0), .ref (rA 1), .ref (rA 2), .ref (rA 3), .ref (rA 4), .ref (rA 5), .ref (rA 6), .ref (rA 7), .long un, .int mi])), (rA 7, .inl (cI, 60, .inl bd))]) [0, 1] (by decide) rfl
      exact W.vret hx hb hr (fun t9 ht9 hW9 => ⟨⟨(bd, mi), rfl, ⟨by simp [jb_bd, c1], by simp [jb_mi, c1, c2]⟩, by rw [ht9]; exact hP9, va_K.moved hW9.alike hK, hD9⟩, hS.F ht9⟩) hS.2.2 dX1_joinBuilders_55
    · refine lv_aload_n hx hb dX1_joinBuilders_35 rfl (lv_at hl 0 rfl) ?_
      refine va_get (D := (dC, dI)) (ci := 1) (v := .ref (rA 7)) (C := RX1) (T := TX1) (N := 10) hx hb hts (fun w h => woX1_joinBuilders w (inX1 w h)) hown hK hP 0 rfl rfl 7 (by decide) (hts _ (woX1_joinBuilders _ wd_117)) (fun _ h9 => h9) rfl dX1_joinBuilders_36 ?_
      refine lv_iload_n hx hb dX1_joinBuilders_39 rfl (lv_at hl 2 rfl) ?_
      refine va_iald hx hb hK hP 1 0 rfl rfl (vp_in_nI (by omega) (by omega)) dX1_joinBuilders_40 ?_
      rw [show (nI g).toNatClampNeg = g from nI_clamp (by omega)]
      refine lv_aload_n hx hb dX1_joinBuilders_41 rfl (lv_at hl 0 rfl) ?_
      refine va_get (D := (dC, dI)) (ci := 1) (v := .ref (rA 7)) (C := RX1) (T := TX1) (N := 10) hx hb hts (fun w h => woX1_joinBuilders w (inX1 w h)) hown hK hP 0 rfl rfl 7 (by decide) (hts _ (woX1_joinBuilders _ wd_117)) (fun _ h9 => h9) rfl dX1_joinBuilders_42 ?_
      refine lv_iload_n hx hb dX1_joinBuilders_45 rfl (lv_at hl 1 rfl) ?_
      refine va_iald hx hb hK hP 1 0 rfl rfl (vp_in_nI (by omega) (by omega)) dX1_joinBuilders_46 ?_
      rw [show (nI k).toNatClampNeg = k from nI_clamp (by omega)]
      refine lv_icmp_eq (tgt := 55) hx hb dX1_joinBuilders_47 (by decide) (fun c3 => ?_) (fun c3 => ?_)
      · have hP9 := hP.sub (ws' := [(rA 0, .inr (1, [.ref (tA 0), .ref (rA 1), .ref (rA 2), .ref (rA 3), .ref (rA 4), .ref (rA 5), .ref (rA 6), .ref (rA 7), .long un, .int mi])), (rA 7, .inl (cI, 60, .inl bd))]) [0, 1] rfl
        have hD9 := hD.sub (ws' := [(rA 0, .inr (1, [.ref (tA 0), .ref (rA 1), .ref (rA 2), .ref (rA 3), .ref (rA 4), .ref (rA 5), .ref (rA 6), .ref (rA 7), .long un, .int mi])), (rA 7, .inl (cI, 60, .inl bd))]) [0, 1] (by decide) rfl
        exact W.vret hx hb hr (fun t9 ht9 hW9 => ⟨⟨(bd, mi), rfl, ⟨by simp [jb_bd, c1], by simp [jb_mi, c1, c2, c3]⟩, by rw [ht9]; exact hP9, va_K.moved hW9.alike hK, hD9⟩, hS.F ht9⟩) hS.2.2 dX1_joinBuilders_55
      · refine lv_aload_n hx hb dX1_joinBuilders_50 rfl (lv_at hl 0 rfl) ?_
        refine lv_iconst (v := 1) hx hb dX1_joinBuilders_51 (by decide) ?_
        refine va_put (D := (dC, dI)) (ci := 1) (v := .int 1) (ty := .boolean) (C := RX1) (T := TX1) (N := 10) hx hb hts (fun w h => woX1_joinBuilders w (inX1 w h)) tyX1 tyX1_ok nmX1 hown hK hP hD hS 0 rfl rfl 9 (by decide) (hts _ (woX1_joinBuilders _ wd_119)) (fun _ h9 => h9) rfl (by decide +kernel) rfl rfl (Nat.le_of_ble_eq_true rfl) dX1_joinBuilders_52 (fun H locs hP hD hS => ?_)
        have hP : va_P (dC, dI) vwCl [(rA 0, .inr (1, [.ref (tA 0), .ref (rA 1), .ref (rA 2), .ref (rA 3), .ref (rA 4), .ref (rA 5), .ref (rA 6), .ref (rA 7), .long un, .int 1])), (rA 7, .inl (cI, 60, .inl bd))] H := hP
        have hD : va_D A [(rA 0, .inr (1, [.ref (tA 0), .ref (rA 1), .ref (rA 2), .ref (rA 3), .ref (rA 4), .ref (rA 5), .ref (rA 6), .ref (rA 7), .long un, .int 1])), (rA 7, .inl (cI, 60, .inl bd))] := hD
        have hP9 := hP.sub (ws' := [(rA 0, .inr (1, [.ref (tA 0), .ref (rA 1), .ref (rA 2), .ref (rA 3), .ref (rA 4), .ref (rA 5), .ref (rA 6), .ref (rA 7), .long un, .int 1])), (rA 7, .inl (cI, 60, .inl bd))]) [0, 1] rfl
        have hD9 := hD.sub (ws' := [(rA 0, .inr (1, [.ref (tA 0), .ref (rA 1), .ref (rA 2), .ref (rA 3), .ref (rA 4), .ref (rA 5), .ref (rA 6), .ref (rA 7), .long un, .int 1])), (rA 7, .inl (cI, 60, .inl bd))]) [0, 1] (by decide) rfl
        exact W.vret hx hb hr (fun t9 ht9 hW9 => ⟨⟨(bd, 1), rfl, ⟨by simp [jb_bd, c1], by simp [jb_mi, c1, c2, c3]⟩, by rw [ht9]; exact hP9, va_K.moved hW9.alike hK, hD9⟩, hS.F ht9⟩) hS.2.2 dX1_joinBuilders_55
  · refine lv_aload_n hx hb dX1_joinBuilders_10 rfl (lv_at hl 0 rfl) ?_
    refine va_get (D := (dC, dI)) (ci := 1) (v := .ref (rA 7)) (C := RX1) (T := TX1) (N := 10) hx hb hts (fun w h => woX1_joinBuilders w (inX1 w h)) hown hK hP 0 rfl rfl 7 (by decide) (hts _ (woX1_joinBuilders _ wd_117)) (fun _ h9 => h9) rfl dX1_joinBuilders_11 ?_
    refine lv_iload_n hx hb dX1_joinBuilders_14 rfl (lv_at hl 1 rfl) ?_
    refine lv_aload_n hx hb dX1_joinBuilders_15 rfl (lv_at hl 0 rfl) ?_
    refine va_get (D := (dC, dI)) (ci := 1) (v := .ref (rA 7)) (C := RX1) (T := TX1) (N := 10) hx hb hts (fun w h => woX1_joinBuilders w (inX1 w h)) hown hK hP 0 rfl rfl 7 (by decide) (hts _ (woX1_joinBuilders _ wd_117)) (fun _ h9 => h9) rfl dX1_joinBuilders_16 ?_
    refine lv_iload_n hx hb dX1_joinBuilders_19 rfl (lv_at hl 2 rfl) ?_
    refine va_iald hx hb hK hP 1 0 rfl rfl (vp_in_nI (by omega) (by omega)) dX1_joinBuilders_20 ?_
    rw [show (nI g).toNatClampNeg = g from nI_clamp (by omega)]
    refine va_iast hx hb hK hP hD hS 1 0 rfl rfl (vp_in_nI (by omega) (by omega)) dX1_joinBuilders_21 (fun H locs hP hD hS => ?_)
    rw [show (nI k).toNatClampNeg = k from nI_clamp (by omega)] at hP hD
    have hP : va_P (dC, dI) vwCl [(rA 0, .inr (1, [.ref (tA 0), .ref (rA 1), .ref (rA 2), .ref (rA 3), .ref (rA 4), .ref (rA 5), .ref (rA 6), .ref (rA 7), .long un, .int mi])), (rA 7, .inl (cI, 60, .inl (upd bd k (bd g))))] H := hP
    have hD : va_D A [(rA 0, .inr (1, [.ref (tA 0), .ref (rA 1), .ref (rA 2), .ref (rA 3), .ref (rA 4), .ref (rA 5), .ref (rA 6), .ref (rA 7), .long un, .int mi])), (rA 7, .inl (cI, 60, .inl (upd bd k (bd g))))] := hD
    refine lv_goto (tgt := 55) hx hb dX1_joinBuilders_22 (by decide) ?_
    have hP9 := hP.sub (ws' := [(rA 0, .inr (1, [.ref (tA 0), .ref (rA 1), .ref (rA 2), .ref (rA 3), .ref (rA 4), .ref (rA 5), .ref (rA 6), .ref (rA 7), .long un, .int mi])), (rA 7, .inl (cI, 60, .inl (upd bd k (bd g))))]) [0, 1] rfl
    have hD9 := hD.sub (ws' := [(rA 0, .inr (1, [.ref (tA 0), .ref (rA 1), .ref (rA 2), .ref (rA 3), .ref (rA 4), .ref (rA 5), .ref (rA 6), .ref (rA 7), .long un, .int mi])), (rA 7, .inl (cI, 60, .inl (upd bd k (bd g))))]) [0, 1] (by decide) rfl
    exact W.vret hx hb hr (fun t9 ht9 hW9 => ⟨⟨(upd bd k (bd g), mi), rfl, ⟨by simp [jb_bd, c1], by simp [jb_mi, c1]⟩, by rw [ht9]; exact hP9, va_K.moved hW9.alike hK, hD9⟩, hS.F ht9⟩) hS.2.2 dX1_joinBuilders_55
