/-! BASE: yes or no as an int; an int that is a number below a bound -/
abbrev zb (r : Int32) (P : Prop) : Prop := (r = 1 ∧ P) ∨ (r = 0 ∧ ¬ P)
abbrev ix (n : Nat) (x : Int32) : Prop := ∃ k, k < n ∧ x = nI k
theorem ix_in {x y : Int32} {n : Nat} (hn : n < 2 ^ 31) (hy : y = nI n) (h1 : ¬ x < 0) (h2 : ¬ y ≤ x) : ix n x := by
  rcases pk_ix x hn with h | h | h
  · exact absurd h h1
  · exact absurd (by rw [hy]; exact h) h2
  · exact h
theorem ix_lo {x : Int32} {n : Nat} (hn : n < 2 ^ 31) (h : x < 0) : ¬ ix n x := by
  rintro ⟨k, hk, e⟩
  rw [e] at h
  exact nI_pos (by omega) h
theorem ix_hi {x y : Int32} {n : Nat} (hn : n < 2 ^ 31) (hy : y = nI n) (h : y ≤ x) : ¬ ix n x := by
  rintro ⟨k, hk, e⟩
  rw [e, hy] at h
  exact nI_ge hk hn h
theorem lc_0 {x : Int64} : lg_cmp x 0 = 0 ↔ x = 0 := lg_cmp_eq x 0
set_option maxHeartbeats 4000000 in
set_option maxRecDepth 100000 in
/-- isSign: 0 .. 15 -/
theorem c_isSign (l : Launch) (dC : Nat → ClassId) (dI : Nat → Nat → Nat) (cI cJ cZ : ClassId) (h0 : Nat) (a : Int32) : Met l yX3_isSign wsX3_isSign ({ frames := 0, cells := 0, slots := 0, locals := 0 }) (va_Pc [.ref h0, .int a] (fun U => va_P (dC, dI) vwCl [] U.heap ∧ va_K (dC, dI) vwCl [(cI, .int), (cJ, .long), (cZ, .boolean)] U)) (vp_Si (fun r => zb r (ix 16 a))) 0 0 (fun _ => False) := by
  refine Met.ofW (cc := cX3_isSign) (maxL := 2) (ret := (some .boolean)) (by decide) rfl ?_
  intro p e s m args below meth c s₁ B hml hv
  obtain ⟨rfl, hP, hK⟩ := hv
  have hx := B.exec
  have hb := B.bytes
  have hr := B.returns
  have hts := atoms_spec (ws := wsX3_isSign) B.pre
  have hown : s.vm.findClass RX3 = some m.cls := findClass_of_methodNamed B.named
  have hlocks := B.notSynchronized
  have hP : va_P (dC, dI) vwCl [] s.heap := hP
  have hl := lv_entry ([.ref h0, .int a]) (n := 2) (Nat.le_of_ble_eq_true rfl)
  rw [lg_entry_eq]
  generalize (lg_sl ([.ref h0, .int a]) ++ List.replicate (2 - (lg_sl ([.ref h0, .int a])).length) Slot.unset).toArray = ls at hl ⊢
  have hl : lv_has ls 2 [(0, .ref h0), (1, .int a)] := hl
  refine lv_iload_n hx hb dX3_isSign_0 rfl (lv_at hl 1 rfl) ?_
  refine lv_if_lt (tgt := 14) hx hb dX3_isSign_1 (by decide) (fun c1 => ?_) (fun c1 => ?_)
  · refine lv_iconst (v := 0) hx hb dX3_isSign_14 (by decide) ?_
    exact W.zret (v := 0) hx hb hr rfl (fun t ht _ => ⟨_, rfl, Or.inr ⟨rfl, ix_lo (by decide) c1⟩, ht⟩) (fun q h => by cases h) dX3_isSign_15
  · refine lv_iload_n hx hb dX3_isSign_4 rfl (lv_at hl 1 rfl) ?_
    refine lv_bipush (v := 16) hx hb dX3_isSign_5 (by decide) ?_
    refine lv_icmp_ge (tgt := 14) hx hb dX3_isSign_7 (by decide) (fun c2 => ?_) (fun c2 => ?_)
    · refine lv_iconst (v := 0) hx hb dX3_isSign_14 (by decide) ?_
      exact W.zret (v := 0) hx hb hr rfl (fun t ht _ => ⟨_, rfl, Or.inr ⟨rfl, ix_hi (by decide) rfl c2⟩, ht⟩) (fun q h => by cases h) dX3_isSign_15
    · refine lv_iconst (v := 1) hx hb dX3_isSign_10 (by decide) ?_
      refine lv_goto (tgt := 15) hx hb dX3_isSign_11 (by decide) ?_
      exact W.zret (v := 1) hx hb hr rfl (fun t ht _ => ⟨_, rfl, Or.inl ⟨rfl, ix_in (by decide) rfl c1 c2⟩, ht⟩) (fun q h => by cases h) dX3_isSign_15
