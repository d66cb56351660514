theorem bc_of (x : Int64) : ∃ n, n < 2 ^ 64 ∧ x = lN n := ⟨x.toBitVec.toNat, x.toBitVec.isLt, Int64.toBitVec.inj (by
  show x.toBitVec = BitVec.ofNat 64 x.toBitVec.toNat
  rw [BitVec.ofNat_toNat, BitVec.setWidth_eq])⟩
theorem bc_and {a b : Nat} : lN a &&& lN b = lN (a &&& b) := Int64.toBitVec.inj (by
  show BitVec.ofNat 64 a &&& BitVec.ofNat 64 b = BitVec.ofNat 64 (a &&& b)
  rw [BitVec.ofNat_and])
theorem bc_shr {a k : Nat} (ha : a < 2 ^ 64) {y : Int32} (hy : ((y.toInt64.toUInt64 &&& Int64.toUInt64 63).toBitVec % 64) = BitVec.ofNat 64 k) (hk : k < 64) : ((lN a).toUInt64 >>> (y.toInt64.toUInt64 &&& Int64.toUInt64 63)).toInt64 = lN (a / 2 ^ k) := Int64.toBitVec.inj (by
  show ((lN a).toUInt64 >>> (y.toInt64.toUInt64 &&& Int64.toUInt64 63)).toBitVec = BitVec.ofNat 64 (a / 2 ^ k)
  rw [UInt64.toBitVec_shiftRight]
  show BitVec.ofNat 64 a >>> ((y.toInt64.toUInt64 &&& Int64.toUInt64 63).toBitVec % 64) = _
  rw [hy, BitVec.ushiftRight_eq']
  refine BitVec.eq_of_toNat_eq ?_
  rw [BitVec.toNat_ushiftRight, BitVec.toNat_ofNat, BitVec.toNat_ofNat, BitVec.toNat_ofNat, Nat.mod_eq_of_lt ha, Nat.mod_eq_of_lt (show k < 2 ^ 64 by omega), Nat.shiftRight_eq_div_pow, Nat.mod_eq_of_lt (Nat.lt_of_le_of_lt (Nat.div_le_self _ _) ha)])
theorem bc_cnt (n : Nat) (hn : n < 2 ^ 64) : mx_cnt n.testBit 64 = jb_cnt (lN n) := mx_cnt_congr (fun i hi => by rw [jb_lN, decide_eq_true hi, Bool.true_and])
theorem bc_end {q : Nat} (hq : q < 2 ^ 63) : (lN q).toInt32 &&& 127 = nI (q % 4294967296 % 128) := by
  rw [lN_i, pk_and (nI q) 7 (by decide)]
  show nI ((BitVec.ofNat 32 q).toNat % 2 ^ 7) = _
  rw [BitVec.toNat_ofNat]

set_option maxHeartbeats 4000000 in
set_option maxRecDepth 100000 in
/-- Long.bitCount -/
theorem c_bitCount (l : Launch) (x : Int64) : Met l yJ13_bitCount wsJ13_bitCount ({ frames := 0, cells := 0, slots := 0, locals := 0 }) (va_Pc [.long x] (fun _ => True)) (vp_Si (fun r => r = nI (jb_cnt x))) 0 0 (fun _ => False) := by
  refine Met.ofW (cc := cJ13_bitCount) (maxL := 2) (ret := (some .int)) (by decide) rfl ?_
  intro p e s m args below meth c s₁ B hml hv
  obtain ⟨rfl, -⟩ := hv
  have hx := B.exec
  have hb := B.bytes
  have hr := B.returns
  have hts := atoms_spec (ws := wsJ13_bitCount) B.pre
  have hown : s.vm.findClass RJ13 = some m.cls := findClass_of_methodNamed B.named
  have hlocks := B.notSynchronized
  have hl := lv_entry ([.long x]) (n := 2) (Nat.le_of_ble_eq_true rfl)
  rw [lg_entry_eq]
  generalize (lg_sl ([.long x]) ++ List.replicate (2 - (lg_sl ([.long x])).length) Slot.unset).toArray = ls at hl ⊢
  have hl : lv_has ls 2 [(0, .long x)] := hl
  obtain ⟨X, hX, rfl⟩ := bc_of x
  obtain ⟨Y, eY, hY, Z, eZ, hZ, V, eV, hV, Q, eQ, hQ, eE⟩ := sw_all hX
  have s1 : (lN X - (((lN X).toUInt64 >>> ((1 : Int32).toInt64.toUInt64 &&& Int64.toUInt64 63)).toInt64 &&& 6148914691236517205)) = lN (sw1 (sw_m 85 8) X) := by rw [bc_shr hX (k := 1) (by decide +kernel) (by omega), show (6148914691236517205 : Int64) = lN (sw_m 85 8) from by decide +kernel, bc_and, lN_sub (Nat.le_trans Nat.and_le_left (Nat.div_le_self _ _))]; rfl
  have b1 : sw1 (sw_m 85 8) X < 2 ^ 64 := Nat.lt_of_le_of_lt (Nat.sub_le _ _) hX
  generalize hx1 : sw1 (sw_m 85 8) X = X1 at s1 b1
  have s2 : ((lN X1 &&& 3689348814741910323) + (((lN X1).toUInt64 >>> ((2 : Int32).toInt64.toUInt64 &&& Int64.toUInt64 63)).toInt64 &&& 3689348814741910323)) = lN (sw2 (sw_m 51 8) X1) := by rw [bc_shr b1 (k := 2) (by decide +kernel) (by omega), show (3689348814741910323 : Int64) = lN (sw_m 51 8) from by decide +kernel, bc_and, bc_and, lN_add]; rfl
  have b2 : sw2 (sw_m 51 8) X1 < 2 ^ 64 := by have h1 : (X1 &&& sw_m 51 8) ≤ sw_m 51 8 := Nat.and_le_right; have h2 : (X1 / 4 &&& sw_m 51 8) ≤ sw_m 51 8 := Nat.and_le_right; have h3 : sw_m 51 8 = 3689348814741910323 := (by decide +kernel); unfold sw2; omega
  generalize hx2 : sw2 (sw_m 51 8) X1 = X2 at s2 b2
  have s3 : ((lN X2 + ((lN X2).toUInt64 >>> ((4 : Int32).toInt64.toUInt64 &&& Int64.toUInt64 63)).toInt64) &&& 1085102592571150095) = lN Y := by rw [bc_shr b2 (k := 4) (by decide +kernel) (by omega), show (1085102592571150095 : Int64) = lN (sw_m 15 8) from by decide +kernel, lN_add, bc_and, eY]; unfold sw_G; rw [hx1, hx2]; rfl
  have s4 : (lN Y + ((lN Y).toUInt64 >>> ((8 : Int32).toInt64.toUInt64 &&& Int64.toUInt64 63)).toInt64) = lN Z := by rw [bc_shr (by omega) (k := 8) (by decide +kernel) (by omega), lN_add, eZ]
  have s5 : (lN Z + ((lN Z).toUInt64 >>> ((16 : Int32).toInt64.toUInt64 &&& Int64.toUInt64 63)).toInt64) = lN V := by rw [bc_shr (by omega) (k := 16) (by decide +kernel) (by omega), lN_add, eV]
  have s6 : (lN V + ((lN V).toUInt64 >>> ((32 : Int32).toInt64.toUInt64 &&& Int64.toUInt64 63)).toInt64) = lN Q := by rw [bc_shr (by omega) (k := 32) (by decide +kernel) (by omega), lN_add, eQ]
  refine lv_lload_n hx hb dJ13_bitCount_0 rfl (lv_at hl 0 rfl) ?_
  refine lv_lload_n hx hb dJ13_bitCount_1 rfl (lv_at hl 0 rfl) ?_
  refine lv_iconst (v := 1) hx hb dJ13_bitCount_2 (by decide) ?_
  refine lv_lushr (v := ((lN X).toUInt64 >>> ((1 : Int32).toInt64.toUInt64 &&& Int64.toUInt64 63)).toInt64) hx hb dJ13_bitCount_3 rfl ?_
  refine lv_ldc2 (v := 6148914691236517205) hx hb hown (hts _ (woJ13_bitCount _ wd_166)) dJ13_bitCount_4 ?_
  refine lv_land hx hb dJ13_bitCount_7 ?_
  refine lv_lsub hx hb dJ13_bitCount_8 ?_
  rw [s1]
  refine lv_lstore_n (lv' := [(0, .long (lN X1))]) hx hb dJ13_bitCount_9 rfl hl (by decide) rfl (fun ls hl => ?_)
  refine lv_lload_n hx hb dJ13_bitCount_10 rfl (lv_at hl 0 rfl) ?_
  refine lv_ldc2 (v := 3689348814741910323) hx hb hown (hts _ (woJ13_bitCount _ wd_167)) dJ13_bitCount_11 ?_
  refine lv_land hx hb dJ13_bitCount_14 ?_
  refine lv_lload_n hx hb dJ13_bitCount_15 rfl (lv_at hl 0 rfl) ?_
  refine lv_iconst (v := 2) hx hb dJ13_bitCount_16 (by decide) ?_
  refine lv_lushr (v := ((lN X1).toUInt64 >>> ((2 : Int32).toInt64.toUInt64 &&& Int64.toUInt64 63)).toInt64) hx hb dJ13_bitCount_17 rfl ?_
  refine lv_ldc2 (v := 3689348814741910323) hx hb hown (hts _ (woJ13_bitCount _ wd_167)) dJ13_bitCount_18 ?_
  refine lv_land hx hb dJ13_bitCount_21 ?_
  refine lv_ladd hx hb dJ13_bitCount_22 ?_
  rw [s2]
  refine lv_lstore_n (lv' := [(0, .long (lN X2))]) hx hb dJ13_bitCount_23 rfl hl (by decide) rfl (fun ls hl => ?_)
  refine lv_lload_n hx hb dJ13_bitCount_24 rfl (lv_at hl 0 rfl) ?_
  refine lv_lload_n hx hb dJ13_bitCount_25 rfl (lv_at hl 0 rfl) ?_
  refine lv_iconst (v := 4) hx hb dJ13_bitCount_26 (by decide) ?_
  refine lv_lushr (v := ((lN X2).toUInt64 >>> ((4 : Int32).toInt64.toUInt64 &&& Int64.toUInt64 63)).toInt64) hx hb dJ13_bitCount_27 rfl ?_
  refine lv_ladd hx hb dJ13_bitCount_28 ?_
  refine lv_ldc2 (v := 1085102592571150095) hx hb hown (hts _ (woJ13_bitCount _ wd_168)) dJ13_bitCount_29 ?_
  refine lv_land hx hb dJ13_bitCount_32 ?_
  rw [s3]
  refine lv_lstore_n (lv' := [(0, .long (lN Y))]) hx hb dJ13_bitCount_33 rfl hl (by decide) rfl (fun ls hl => ?_)
  refine lv_lload_n hx hb dJ13_bitCount_34 rfl (lv_at hl 0 rfl) ?_
  refine lv_lload_n hx hb dJ13_bitCount_35 rfl (lv_at hl 0 rfl) ?_
  refine lv_bipush (v := 8) hx hb dJ13_bitCount_36 (by decide) ?_
  refine lv_lushr (v := ((lN Y).toUInt64 >>> ((8 : Int32).toInt64.toUInt64 &&& Int64.toUInt64 63)).toInt64) hx hb dJ13_bitCount_38 rfl ?_
  refine lv_ladd hx hb dJ13_bitCount_39 ?_
  rw [s4]
  refine lv_lstore_n (lv' := [(0, .long (lN Z))]) hx hb dJ13_bitCount_40 rfl hl (by decide) rfl (fun ls hl => ?_)
  refine lv_lload_n hx hb dJ13_bitCount_41 rfl (lv_at hl 0 rfl) ?_
  refine lv_lload_n hx hb dJ13_bitCount_42 rfl (lv_at hl 0 rfl) ?_
  refine lv_bipush (v := 16) hx hb dJ13_bitCount_43 (by decide) ?_
  refine lv_lushr (v := ((lN Z).toUInt64 >>> ((16 : Int32).toInt64.toUInt64 &&& Int64.toUInt64 63)).toInt64) hx hb dJ13_bitCount_45 rfl ?_
  refine lv_ladd hx hb dJ13_bitCount_46 ?_
  rw [s5]
  refine lv_lstore_n (lv' := [(0, .long (lN V))]) hx hb dJ13_bitCount_47 rfl hl (by decide) rfl (fun ls hl => ?_)
  refine lv_lload_n hx hb dJ13_bitCount_48 rfl (lv_at hl 0 rfl) ?_
  refine lv_lload_n hx hb dJ13_bitCount_49 rfl (lv_at hl 0 rfl) ?_
  refine lv_bipush (v := 32) hx hb dJ13_bitCount_50 (by decide) ?_
  refine lv_lushr (v := ((lN V).toUInt64 >>> ((32 : Int32).toInt64.toUInt64 &&& Int64.toUInt64 63)).toInt64) hx hb dJ13_bitCount_52 rfl ?_
  refine lv_ladd hx hb dJ13_bitCount_53 ?_
  rw [s6]
  refine lv_lstore_n (lv' := [(0, .long (lN Q))]) hx hb dJ13_bitCount_54 rfl hl (by decide) rfl (fun ls hl => ?_)
  refine lv_lload_n hx hb dJ13_bitCount_55 rfl (lv_at hl 0 rfl) ?_
  refine lv_l2i (v := (lN Q).toInt32) hx hb dJ13_bitCount_56 rfl ?_
  refine lv_bipush (v := 127) hx hb dJ13_bitCount_57 (by decide) ?_
  refine lv_iand hx hb dJ13_bitCount_59 ?_
  exact W.iret (v := ((lN Q).toInt32) &&& 127) hx hb hr (fun t9 ht9 _ => ⟨_, rfl, by rw [bc_end hQ, eE, bc_cnt X hX], ht9⟩) (fun q h => by cases h) dJ13_bitCount_60
