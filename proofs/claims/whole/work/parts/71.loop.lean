/-! THE LAW: its loop -/
theorem lw_le {L i : Nat} (hL : L ≤ 2560) (hi : i ≤ 2560) : Int32.ofNat L - 5 < nI i ↔ L < i + 5 := by
  by_cases h : 5 ≤ L
  · have e0 : nI (L - 5) + nI 5 = nI L := by rw [nI_add]; congr 1; omega
    have e1 : Int32.ofNat L - 5 = nI (L - 5) := by
      rw [show Int32.ofNat L = nI (L - 5) + 5 from e0.symm]
      exact Int32.add_sub_cancel _ _
    rw [e1, nI_ltI (by omega) (by omega)]
    omega
  · refine ⟨fun _ => by omega, fun _ => ?_⟩
    have hp : (0 : Int32) ≤ nI i := nI_le (a := 0) (Nat.zero_le i) (by omega)
    refine Int32.lt_of_lt_of_le (b := 0) ?_ hp
    rcases (show L = 0 ∨ L = 1 ∨ L = 2 ∨ L = 3 ∨ L = 4 by omega) with rfl | rfl | rfl | rfl | rfl <;> decide
theorem ar_of {args : Array Value} {s : State} {ty : FieldType} (h : (Cond.arrayClass ty).before args s = true) : ∃ cA, ArrOfT s cA ty ∧ s.vm.findClass ("[" ++ ty.toString) = some cA := by
  obtain ⟨cA, k, comp, h1, h2, h3⟩ := Cond.arrayClass_spec h
  exact ⟨cA, fun n z => ⟨fun k h => (by cases h), k, h2, comp, h3⟩, h1⟩
def zT : mx_T := (0, fun _ => 0, fun _ _ => none, fun _ => false)
def zF : mx_F := (0, fun _ => 0, fun _ => 0, fun _ => false)

theorem li_0 {po : Nat → Int32} (hpo : ∀ s, s < 16 → po s = -1) : LI zT (fun _ => false) zF po (fun _ => 0) (fun _ => 0) (fun _ => 0) (fun _ => 0) (fun _ => 0) (fun _ => 0) (fun _ => 0) 0 (fun _ => 0) (fun _ => 0) (fun _ => 0) (fun _ => 0) (fun _ => 0) (fun _ => 0) (fun _ => 0) (fun _ => 0) (fun _ => 0) (fun _ => 0) 0 0 (fun _ => 0) (fun _ => 0) (fun _ => 0) (fun _ => 0) (fun _ => 0) (fun _ => 0) (fun _ => 0) (fun _ => 0) := by
  have nu : ∀ x, ¬ us_P zT x := fun x ⟨t, h, _⟩ => Nat.not_lt_zero t h
  have n1 : ∀ t : Nat, ¬ t < mx_n zT := fun t h => Nat.not_lt_zero t h
  have n2 : ∀ t : Nat, ¬ t < mx_m zF := fun t h => Nat.not_lt_zero t h
  have j0 : ∀ t, jb (0 : Int64) t = false := jb_0
  refine ⟨⟨⟨fun t _ _ h => absurd h (n1 t), fun t _ _ h => absurd h (n1 t), fun t _ h => absurd h (n1 t)⟩, fun t _ h => absurd h (n1 t), fun t h => absurd h (n1 t), fun t _ h => absurd h (n1 t), Nat.zero_le _, fun t h => absurd h (n1 t)⟩, ⟨?_, ⟨fun t h => absurd h (n1 t), ?_⟩, ⟨fun x hx => ⟨fun _ => nu x, fun _ => hpo x hx⟩, fun t h => absurd h (n1 t)⟩, fun t h => absurd h (n1 t), fun x _ => rfl, ⟨Nat.zero_le _, fun f h => absurd h (n2 f)⟩, ⟨⟨fun t h => absurd h (n1 t), fun _ => none, false, ⟨fun t h => absurd h (n1 t), fun t h => absurd h (n1 t), fun _ t _ h => absurd h (n1 t), fun t h => absurd h (n1 t), fun t h => absurd h (n1 t), fun _ t _ h => absurd h (n1 t), fun h => (by cases h)⟩, fun t h => absurd h (n1 t), rfl⟩, fun _ _ _ => ⟨rfl, rfl, rfl, rfl⟩⟩, rfl⟩, ⟨fun t h => absurd h (n1 t), fun t _ h => absurd h (n1 t)⟩, fun x _ => Or.inr ⟨rfl, nu x⟩, fun x _ => rfl, ⟨Nat.zero_le _, fun f h => absurd h (n2 f)⟩⟩
  · exact fun t => ⟨fun h => (by rw [j0] at h; cases h), fun h => absurd h.1 (n1 t)⟩
  · exact fun x _ t => ⟨fun h => (by rw [j0] at h; cases h), fun h => absurd h.1 (n1 t)⟩

set_option maxHeartbeats 4000000 in
set_option maxRecDepth 100000 in
theorem lw_loop {p : Program} {l : Launch} {e : Env} {s : State} {m : MethodId} {below : List Frame} {meth : Method} {c : Code} {Q : State → Prop} {b : Nat} {dC : Nat → ClassId} {dI : Nat → Nat → Nat} {cI cJ cZ : ClassId} {A : Nat → Prop} {tA fA pA rA mA : Nat → Nat} {o ou0 : Nat} {L : Nat} {xs : Nat → Int32} (hst : l.stackTraces = false) (hx : p.tables.exec = Jvm.exec) (hb : c.code = cL_law) (hown : s.vm.findClass RL = some m.cls) (hts : ∀ w ∈ lw_tbl, w.before #[Value.ref b] s = true) (hK : va_K (dC, dI) vwCl [(cI, .int), (cJ, .long), (cZ, .boolean)] s) (hNw : va_Nw nwL s) (hA : ∀ q : Nat, s.heap.size ≤ q → A q) (hX0 : va_X b L xs s s.heap) (hbl : b < s.heap.size) (hbA : ¬ A b) (htw : tkW s) (hzs : tk_us A s s.heap) (hstr : ∀ q ∈ tkS, ∃ a, vk_R RX3 q.1 q.2 a s) (hnc : tkN s) (hml : c.maxLocals = 8) (hL : L ≤ 2560) (kx : ∀ (k : Nat) (H : Heap) (locs : List Loc) (ls : Array Slot), k ≤ 512 → va_S A s.heap H locs → lv_has ls 8 [(0, .ref b)] → W p l e room_1 s m #[Value.ref b] below meth c H locs (43 + k) (5490 + 6 * k) Q (F0 m 735 ls [])) : ∀ (d k i : Nat), 513 ≤ k + d → 5 * k ≤ L → i = 5 * k → lwKK p l e s m below meth c Q b dC dI cI cJ cZ A tA fA pA rA mA o ou0 i (43 + k) (5490 + 6 * k) 23 := by
  intro d
  induction d with
  | zero =>
    intro k i hd hk
    exact absurd hd (by omega)
  | succ d ih =>
    intro k i hd hk hik T gb F po bs os sg fa fb fc ins bu fl fr fs nmp mep fup sup tup bep bdp unp mip nm me fu su tu be bd un mi isb isu pls msg at_ on tw sa le bl sd th jo ou H locs ls hI hP hD hS hl
    refine lv_iload hx hb dL_law_23 (lv_at hl 4 rfl) ?_
    refine lv_aload_n hx hb dL_law_25 rfl (lv_at hl 0 rfl) ?_
    refine va_slen hx hb hX0 hbl hbA hS dL_law_26 ?_
    refine lv_iconst (v := 5) hx hb dL_law_27 (by decide) ?_
    refine lv_isub hx hb dL_law_28 ?_
    refine lv_icmp_gt (tgt := 735) hx hb dL_law_29 (by decide) (fun c1 => ?_) (fun c1 => ?_)
    · exact kx k _ _ _ (by omega) hS (lv_sub hl [0] rfl)
    · have hi : i + 5 ≤ L := Nat.not_lt.mp (fun q => c1 ((lw_le hL (by omega)).mpr q))
      have hcl : 43 + k + 1 ≤ 1074 := by omega
      have hsl : 5490 + 6 * k + 6 ≤ 13724 := by omega
      have kk : lwKK p l e s m below meth c Q b dC dI cI cJ cZ A tA fA pA rA mA o ou0 i (43 + k + 1) (5490 + 6 * k + 6) 729 := by
        intro T gb F po bs os sg fa fb fc ins bu fl fr fs nmp mep fup sup tup bep bdp unp mip nm me fu su tu be bd un mi isb isu pls msg at_ on tw sa le bl sd th jo ou H locs ls hI hP hD hS hl
        obtain ⟨y_1, ey_1⟩ : ∃ y9 : Int32, y9 = (nI i) + 5 := ⟨_, rfl⟩
        refine lv_iinc (v := y_1) (lv' := [(4, .int y_1), (0, .ref b), (1, .ref o), (2, .ref (mA 0)), (3, .ref ou0)]) hx hb dL_law_729 hl (k := 4) rfl (by rw [ey_1]; rfl) (by decide) rfl (fun ls hl => ?_)
        refine lv_goto (tgt := 23) hx hb dL_law_732 (by decide) ?_
        rw [ey_1, show nI i + 5 = nI (i + 5) from nI_add i 5] at hl
        refine W.cs (cells' := 43 + (k + 1)) (slots' := 5490 + 6 * (k + 1)) (by omega) (by omega) ?_
        exact ih (k + 1) (i + 5) (by omega) (by omega) (by omega) T gb F po bs os sg fa fb fc ins bu fl fr fs nmp mep fup sup tup bep bdp unp mip nm me fu su tu be bd un mi isb isu pls msg at_ on tw sa le bl sd th jo ou _ _ _ hI hP hD hS (lv_sub hl [1, 2, 3, 4, 0] rfl)
      refine lv_aload_n hx hb dL_law_32 rfl (lv_at hl 0 rfl) ?_
      refine lv_iload hx hb dL_law_33 (lv_at hl 4 rfl) ?_
      refine va_sld hx hb hX0 hbl hbA hS (vp_in_nI (by omega) (by omega)) dL_law_35 ?_
      rw [show (nI i).toNatClampNeg = i from nI_clamp (by omega)]
      refine lv_bipush (v := 15) hx hb dL_law_36 (by decide) ?_
      refine lv_iand hx hb dL_law_38 ?_
      by_cases q0 : (xs i) &&& 15 = 0
      · refine lv_tableIn (off := 65) (tgt := 104) hx hb dL_law_39 (by rw [q0]; decide) (by rw [q0]; decide) (by rw [q0]; rfl) (by decide) ?_
        exact lwc_0 hst hx hb hown hts hK hNw hA hX0 hbl hbA htw hzs hstr hnc hml hL hi hcl hsl kk T gb F po bs os sg fa fb fc ins bu fl fr fs nmp mep fup sup tup bep bdp unp mip nm me fu su tu be bd un mi isb isu pls msg at_ on tw sa le bl sd th jo ou _ _ _ hI hP hD hS hl
      · by_cases q1 : (xs i) &&& 15 = 1
        · refine lv_tableIn (off := 101) (tgt := 140) hx hb dL_law_39 (by rw [q1]; decide) (by rw [q1]; decide) (by rw [q1]; rfl) (by decide) ?_
          exact lwc_1 hst hx hb hown hts hK hNw hA hX0 hbl hbA htw hzs hstr hnc hml hL hi hcl hsl kk T gb F po bs os sg fa fb fc ins bu fl fr fs nmp mep fup sup tup bep bdp unp mip nm me fu su tu be bd un mi isb isu pls msg at_ on tw sa le bl sd th jo ou _ _ _ hI hP hD hS hl
        · by_cases q2 : (xs i) &&& 15 = 2
          · refine lv_tableIn (off := 193) (tgt := 232) hx hb dL_law_39 (by rw [q2]; decide) (by rw [q2]; decide) (by rw [q2]; rfl) (by decide) ?_
            exact lwc_2 hst hx hb hown hts hK hNw hA hX0 hbl hbA htw hzs hstr hnc hml hL hi hcl hsl kk T gb F po bs os sg fa fb fc ins bu fl fr fs nmp mep fup sup tup bep bdp unp mip nm me fu su tu be bd un mi isb isu pls msg at_ on tw sa le bl sd th jo ou _ _ _ hI hP hD hS hl
          · by_cases q3 : (xs i) &&& 15 = 3
            · refine lv_tableIn (off := 230) (tgt := 269) hx hb dL_law_39 (by rw [q3]; decide) (by rw [q3]; decide) (by rw [q3]; rfl) (by decide) ?_
              exact lwc_3 hst hx hb hown hts hK hNw hA hX0 hbl hbA htw hzs hstr hnc hml hL hi hcl hsl kk T gb F po bs os sg fa fb fc ins bu fl fr fs nmp mep fup sup tup bep bdp unp mip nm me fu su tu be bd un mi isb isu pls msg at_ on tw sa le bl sd th jo ou _ _ _ hI hP hD hS hl
            · by_cases q4 : (xs i) &&& 15 = 4
              · refine lv_tableIn (off := 326) (tgt := 365) hx hb dL_law_39 (by rw [q4]; decide) (by rw [q4]; decide) (by rw [q4]; rfl) (by decide) ?_
                exact lwc_4 hst hx hb hown hts hK hNw hA hX0 hbl hbA htw hzs hstr hnc hml hL hi hcl hsl kk T gb F po bs os sg fa fb fc ins bu fl fr fs nmp mep fup sup tup bep bdp unp mip nm me fu su tu be bd un mi isb isu pls msg at_ on tw sa le bl sd th jo ou _ _ _ hI hP hD hS hl
              · by_cases q5 : (xs i) &&& 15 = 5
                · refine lv_tableIn (off := 339) (tgt := 378) hx hb dL_law_39 (by rw [q5]; decide) (by rw [q5]; decide) (by rw [q5]; rfl) (by decide) ?_
                  exact lwc_5 hst hx hb hown hts hK hNw hA hX0 hbl hbA htw hzs hstr hnc hml hL hi hcl hsl kk T gb F po bs os sg fa fb fc ins bu fl fr fs nmp mep fup sup tup bep bdp unp mip nm me fu su tu be bd un mi isb isu pls msg at_ on tw sa le bl sd th jo ou _ _ _ hI hP hD hS hl
                · by_cases q6 : (xs i) &&& 15 = 6
                  · refine lv_tableIn (off := 414) (tgt := 453) hx hb dL_law_39 (by rw [q6]; decide) (by rw [q6]; decide) (by rw [q6]; rfl) (by decide) ?_
                    exact lwc_6 hst hx hb hown hts hK hNw hA hX0 hbl hbA htw hzs hstr hnc hml hL hi hcl hsl kk T gb F po bs os sg fa fb fc ins bu fl fr fs nmp mep fup sup tup bep bdp unp mip nm me fu su tu be bd un mi isb isu pls msg at_ on tw sa le bl sd th jo ou _ _ _ hI hP hD hS hl
                  · by_cases q7 : (xs i) &&& 15 = 7
                    · refine lv_tableIn (off := 427) (tgt := 466) hx hb dL_law_39 (by rw [q7]; decide) (by rw [q7]; decide) (by rw [q7]; rfl) (by decide) ?_
                      exact lwc_7 hst hx hb hown hts hK hNw hA hX0 hbl hbA htw hzs hstr hnc hml hL hi hcl hsl kk T gb F po bs os sg fa fb fc ins bu fl fr fs nmp mep fup sup tup bep bdp unp mip nm me fu su tu be bd un mi isb isu pls msg at_ on tw sa le bl sd th jo ou _ _ _ hI hP hD hS hl
                    · by_cases q8 : (xs i) &&& 15 = 8
                      · refine lv_tableIn (off := 502) (tgt := 541) hx hb dL_law_39 (by rw [q8]; decide) (by rw [q8]; decide) (by rw [q8]; rfl) (by decide) ?_
                        exact lwc_8 hst hx hb hown hts hK hNw hA hX0 hbl hbA htw hzs hstr hnc hml hL hi hcl hsl kk T gb F po bs os sg fa fb fc ins bu fl fr fs nmp mep fup sup tup bep bdp unp mip nm me fu su tu be bd un mi isb isu pls msg at_ on tw sa le bl sd th jo ou _ _ _ hI hP hD hS hl
                      · by_cases q9 : (xs i) &&& 15 = 9
                        · refine lv_tableIn (off := 570) (tgt := 609) hx hb dL_law_39 (by rw [q9]; decide) (by rw [q9]; decide) (by rw [q9]; rfl) (by decide) ?_
                          exact lwc_9 hst hx hb hown hts hK hNw hA hX0 hbl hbA htw hzs hstr hnc hml hL hi hcl hsl kk T gb F po bs os sg fa fb fc ins bu fl fr fs nmp mep fup sup tup bep bdp unp mip nm me fu su tu be bd un mi isb isu pls msg at_ on tw sa le bl sd th jo ou _ _ _ hI hP hD hS hl
                        · by_cases q10 : (xs i) &&& 15 = 10
                          · refine lv_tableIn (off := 637) (tgt := 676) hx hb dL_law_39 (by rw [q10]; decide) (by rw [q10]; decide) (by rw [q10]; rfl) (by decide) ?_
                            exact lwc_10 hst hx hb hown hts hK hNw hA hX0 hbl hbA htw hzs hstr hnc hml hL hi hcl hsl kk T gb F po bs os sg fa fb fc ins bu fl fr fs nmp mep fup sup tup bep bdp unp mip nm me fu su tu be bd un mi isb isu pls msg at_ on tw sa le bl sd th jo ou _ _ _ hI hP hD hS hl
                          · by_cases q11 : (xs i) &&& 15 = 11
                            · refine lv_tableIn (off := 651) (tgt := 690) hx hb dL_law_39 (by rw [q11]; decide) (by rw [q11]; decide) (by rw [q11]; rfl) (by decide) ?_
                              exact lwc_11 hst hx hb hown hts hK hNw hA hX0 hbl hbA htw hzs hstr hnc hml hL hi hcl hsl kk T gb F po bs os sg fa fb fc ins bu fl fr fs nmp mep fup sup tup bep bdp unp mip nm me fu su tu be bd un mi isb isu pls msg at_ on tw sa le bl sd th jo ou _ _ _ hI hP hD hS hl
                            · by_cases q12 : (xs i) &&& 15 = 12
                              · refine lv_tableIn (off := 665) (tgt := 704) hx hb dL_law_39 (by rw [q12]; decide) (by rw [q12]; decide) (by rw [q12]; rfl) (by decide) ?_
                                exact lwc_12 hst hx hb hown hts hK hNw hA hX0 hbl hbA htw hzs hstr hnc hml hL hi hcl hsl kk T gb F po bs os sg fa fb fc ins bu fl fr fs nmp mep fup sup tup bep bdp unp mip nm me fu su tu be bd un mi isb isu pls msg at_ on tw sa le bl sd th jo ou _ _ _ hI hP hD hS hl
                              · have hno : ¬ ix 13 ((xs i) &&& 15) := fun ⟨k9, hk9, e9⟩ => by
                                  rcases (show k9 = 0 ∨ k9 = 1 ∨ k9 = 2 ∨ k9 = 3 ∨ k9 = 4 ∨ k9 = 5 ∨ k9 = 6 ∨ k9 = 7 ∨ k9 = 8 ∨ k9 = 9 ∨ k9 = 10 ∨ k9 = 11 ∨ k9 = 12 by omega) with rfl | rfl | rfl | rfl | rfl | rfl | rfl | rfl | rfl | rfl | rfl | rfl | rfl
                                  · exact q0 e9
                                  · exact q1 e9
                                  · exact q2 e9
                                  · exact q3 e9
                                  · exact q4 e9
                                  · exact q5 e9
                                  · exact q6 e9
                                  · exact q7 e9
                                  · exact q8 e9
                                  · exact q9 e9
                                  · exact q10 e9
                                  · exact q11 e9
                                  · exact q12 e9
                                refine lv_tableOut (tgt := 729) hx hb dL_law_39 (by have := sw_out (n := 13) (by decide) hno; omega) (by decide) ?_
                                refine W.widen (k := 43 + k + 1) (n := 5490 + 6 * k + 6) (by omega) (by omega) ?_
                                exact kk T gb F po bs os sg fa fb fc ins bu fl fr fs nmp mep fup sup tup bep bdp unp mip nm me fu su tu be bd un mi isb isu pls msg at_ on tw sa le bl sd th jo ou _ _ _ hI hP hD hS hl
